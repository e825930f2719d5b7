/-! a server goes down -/
theorem add_71 {X : AA} {s f : Nat} {v w : Int32} (hf : f ≠ 71) : aAdd (aI X 71 s v) f 0 w = aI (aAdd X f 0 w) 71 s v := by
  have e : aS (aI X 71 s v) f 0 = aS X f 0 := aS_If hf
  show aI (aI X 71 s v) f 0 (aS (aI X 71 s v) f 0 + w) = aI (aI X f 0 (aS X f 0 + w)) 71 s v
  rw [e, aI_comm (fun z => hf z.1.symm)]
theorem fly_71 {X : AA} {s : Nat} {v : Int32} {l : AL} {t : Int32} : A_fly (aI X 71 s v) l t = aI (A_fly X l t) 71 s v := by
  unfold A_fly
  by_cases q : 128 ≤ (aWay X).length
  · rw [if_pos q, if_pos (show 128 ≤ (aWay (aI X 71 s v)).length from q)]
    exact add_71 (by decide)
  · rw [if_neg q, if_neg (show ¬ 128 ≤ (aWay (aI X 71 s v)).length from q), add_71 (by decide), add_71 (by decide)]
    rfl
theorem sendOut_71 {X : AA} {s : Nat} {v : Int32} {l : AL} : A_sendOut (aI X 71 s v) l = aI (A_sendOut X l) 71 s v := by
  unfold A_sendOut
  by_cases q1 : A_parted X (l.1 2) (l.1 3) = true
  · rw [if_pos q1, if_pos (show A_parted (aI X 71 s v) (l.1 2) (l.1 3) = true from q1)]
    exact add_71 (by decide)
  · rw [if_neg q1, if_neg (show ¬ A_parted (aI X 71 s v) (l.1 2) (l.1 3) = true from q1)]
    by_cases q2 : aS X 25 0 = 0 ∧ aS X 26 0 = 0 ∧ aS X 27 0 = 0
    · rw [if_pos q2, if_pos (show aS (aI X 71 s v) 25 0 = 0 ∧ aS (aI X 71 s v) 26 0 = 0 ∧ aS (aI X 71 s v) 27 0 = 0 from q2)]
      exact fly_71
    · rw [if_neg q2, if_neg (show ¬ (aS (aI X 71 s v) 25 0 = 0 ∧ aS (aI X 71 s v) 26 0 = 0 ∧ aS (aI X 71 s v) 27 0 = 0) from q2)]
      by_cases q3 : (A_draw X 1000).1 < aS X 25 0
      · rw [if_pos q3, if_pos (show (A_draw (aI X 71 s v) 1000).1 < aS (aI X 71 s v) 25 0 from q3)]
        exact add_71 (X := (A_draw X 1000).2) (by decide)
      · rw [if_neg q3, if_neg (show ¬ (A_draw (aI X 71 s v) 1000).1 < aS (aI X 71 s v) 25 0 from q3)]
        have d : ∀ (Y : AA) (m : Int32), A_draw (aI Y 71 s v) m = ((A_draw Y m).1, aI (A_draw Y m).2 71 s v) := fun _ _ => rfl
        have e27 : aS (aI X 71 s v) 27 0 = aS X 27 0 := aS_If (by decide)
        have e26 : aS (aI X 71 s v) 26 0 = aS X 26 0 := aS_If (by decide)
        have e23 : ∀ j, aS (aI X 71 s v) 23 j = aS X 23 j := fun j => aS_If (by decide)
        have en : aNow (aI X 71 s v) = aNow X := aS_If (by decide)
        simp only [d, e27, e26, e23, en, fly_71]
        by_cases q4 : (A_draw (A_draw X 1000).2 1000).1 < aS X 26 0
        · rw [if_pos q4, if_pos q4]
        · rw [if_neg q4, if_neg q4]
theorem allOut_71 {s : Nat} {v : Int32} : ∀ (w : List AL) (X : AA), A_sendAllOut (aI X 71 s v) w = aI (A_sendAllOut X w) 71 s v := by
  intro w
  induction w with
  | nil => exact fun _ => rfl
  | cons l r ih =>
    intro X
    show A_sendAllOut (A_sendOut (aI X 71 s v) l) r = aI (A_sendAllOut (A_sendOut X l) r) 71 s v
    rw [sendOut_71]
    exact ih _
theorem allOut_wt {s : Nat} {v : List AL} : ∀ (w : List AL) (X : AA), A_sendAllOut (aWtS X s v) w = aWtS (A_sendAllOut X w) s v := by
  intro w
  induction w with
  | nil => exact fun _ => rfl
  | cons l r ih =>
    intro X
    show A_sendAllOut (A_sendOut (aWtS X s v) l) r = aWtS (A_sendAllOut (A_sendOut X l) r) s v
    rw [sendOut_wt]
    exact ih _
/-- the requests of a server that is down are nobody's -/
theorem RC_rqd {c : CS} {a : AA} {v : CV} {s : Nat} {rq : List AQ} (h : RC c a v) (hd : aS a 52 s = 0) : RC c (aRqS a s rq) v := by
  have hF : Ck [] 0 c c := Ck_r
  have e : ∀ g, g ∉ ([] : List Nat) → ∀ j, aS (aRqS a s rq) g j = aS a g j := fun _ _ _ => rfl
  have hrq : ∀ t, t < 7 → aS (aRqS a s rq) 52 t = 1 → KRq c t (aS (aRqS a s rq) 151 t) (aRq (aRqS a s rq) t) := by
    intro t ht hu
    have hu' : aS a 52 t = 1 := hu
    have q : t ≠ s := fun z => by
      rw [z, hd] at hu'
      exact absurd hu' (by decide)
    have e1 : aRq (aRqS a s rq) t = aRq a t := if_neg q
    rw [e1]
    exact h.2.2.2.2.1 t ht hu'
  exact ⟨KSc_k hF (by decide) e (by decide) h.1, fr_k hF (by decide) e (by decide) h.2.1, hd_k hF (by decide) e (by decide) h.2.2.1, ld_k hF (by decide) e (by decide) h.2.2.2.1, hrq, bl_k hF (by decide) e (by decide) h.2.2.2.2.2.1, da_k hF (by decide) e (by decide) rfl h.2.2.2.2.2.2.1, lw_k hF (by decide) e (by decide) h.2.2.2.2.2.2.2.1, fun s hs => KG_fr hF (by decide) (h.2.2.2.2.2.2.2.2.1 s hs), fun s hs => KPg_fr hF (by decide) (h.2.2.2.2.2.2.2.2.2.1 s hs), fun s hs => KCh_fr hF (by decide) (h.2.2.2.2.2.2.2.2.2.2.1 s hs), fun s hs => KMc_fr hF (by decide) (h.2.2.2.2.2.2.2.2.2.2.2.1 s hs), pc_k hF (by decide) e (by decide) rfl h.2.2.2.2.2.2.2.2.2.2.2.2.1, cl_k hF (by decide) e (by decide) h.2.2.2.2.2.2.2.2.2.2.2.2.2.1, fun k hk => KDn_fr hF (by decide) (h.2.2.2.2.2.2.2.2.2.2.2.2.2.2.1 k hk), KAk_fr hF (by decide) h.2.2.2.2.2.2.2.2.2.2.2.2.2.2.2.1, KFc_fr hF (by decide) h.2.2.2.2.2.2.2.2.2.2.2.2.2.2.2.2.1, id_k hF (by decide) e (by decide) h.2.2.2.2.2.2.2.2.2.2.2.2.2.2.2.2.2.1, fun k hk => KIc_fr hF (by decide) (h.2.2.2.2.2.2.2.2.2.2.2.2.2.2.2.2.2.2.1 k hk), KLt_fr hF rfl (by decide) h.2.2.2.2.2.2.2.2.2.2.2.2.2.2.2.2.2.2.2.1, KRm_fr hF rfl (by decide) h.2.2.2.2.2.2.2.2.2.2.2.2.2.2.2.2.2.2.2.2.1, sh_k e (by decide) rfl rfl h.2.2.2.2.2.2.2.2.2.2.2.2.2.2.2.2.2.2.2.2.2.1, nw_k e (by decide) h.2.2.2.2.2.2.2.2.2.2.2.2.2.2.2.2.2.2.2.2.2.2⟩
theorem K_beDown {c : CS} {a : AA} {v : CV} {s : Nat} (h : RC c a v) (hs : s < 7) : WP (k_Server_beDown c s) (fun c' => RC c' (aI (aI (aI (aI a 52 s 0) 71 s 0) 29 s (-1)) 31 s (-1)) v) := by
  unfold k_Server_beDown k_Server_beDown_b0 cputZ
  rw [if_pos (Or.inl rfl)]
  have h1 := RC_52z (s := s) h
  refine WP_b ?_
  rw [if_pos (Or.inl rfl)]
  have h2 := RC_71z (s := s) h1
  refine WP_b ?_
  rw [RC_b1 h2 hs]
  refine WP_call (K_hush (b := s) h2 (by omega)) (fun c3 h3 => ?_)
  rw [RC_b1 h3 hs, show (16 : Int32) + Int32.ofNat s = Int32.ofNat (16 + s) from i_ad (c := 16)]
  refine WP_call (K_hush (b := 16 + s) h3 (by omega)) (fun c4 h4 => WP_some ?_)
  have e1 : ∀ X : AA, aHush X s = aI X 29 s (-1) := fun X => if_pos (by omega)
  have e2 : ∀ X : AA, aHush X (16 + s) = aI X 31 s (-1) := fun X => (if_neg (by omega)).trans (by rw [show 16 + s - 16 = s by omega])
  rw [e1, e2] at h4
  exact h4
theorem K_goDown {F : Nat} {c : CS} {a : AA} {s : Nat} {H : List (Nat × Option AL)} {U : Nat → Int32} {N : Nat × Nat} (hF : 130 ≤ F) (h : RC c a ((H, U), N)) (hs : s < 7) (wf : ∀ l ∈ aWt a s, wfL l) (hH : H.length ≤ 5) : WP (k_Server_goDown F c s) (fun c' => RC c' (aDown (A_sendAllOut (A_syncAll a s) (aWt a s)) s) ((H, U), N)) := by
  unfold k_Server_goDown k_Server_goDown_b0
  refine WP_call (K_syncAll (by omega) h hs) (fun c1 h1 => ?_)
  have ew : aWt (aI (aSyncFiles a s 16) 46 s 0) = aWt a := (AFr_t (@AFr_syncFs a s 16) (AFr_I (f := 46) (i := s) (v := 0))).2.2.1 (by decide)
  have e0 : A_syncAll a s = aI (aI (aSyncFiles a s 16) 46 s 0) 71 s 0 := rfl
  rw [e0]
  generalize aI (aSyncFiles a s 16) 46 s 0 = b at h1 ew
  refine WP_call (K_postWaiting hF h1 hs (by rw [ew]; exact wf) hH) (fun c2 h2 => ?_)
  rw [ew, allOut_wt] at h2
  rw [allOut_71]
  generalize A_sendAllOut b (aWt a s) = B at h2
  refine WP_call (K_beDown h2 hs) (fun c3 h3 => WP_some ?_)
  have e1 : aDown (aI B 71 s 0) s = aRqS (aI (aI (aI (aI (aWtS B s []) 52 s 0) 71 s 0) 29 s (-1)) 31 s (-1)) s [] := by
    have e2 : aI (aI B 71 s 0) 52 s 0 = aI (aI B 52 s 0) 71 s 0 := aI_comm (fun z => absurd z.1 (by decide))
    show aRqS (aWtS (aI (aI (aI (aI B 71 s 0) 52 s 0) 29 s (-1)) 31 s (-1)) s []) s [] = _
    rw [e2]
    rfl
  rw [e1]
  refine RC_rqd h3 ?_
  rw [aS_If (by decide), aS_If (by decide), aS_If (by decide), aS_I, if_pos ⟨rfl, rfl⟩]
