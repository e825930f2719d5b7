/-! a sync; a server goes down -/
theorem RC_71z {c : CS} {a : AA} {v : CV} {s : Nat} (h : RC c a v) : RC (csI c 13 s 9 0 0) (aI a 71 s 0) v := by
  have hF : Ck [32 * 13 + 9] s c (csI c 13 s 9 0 0) := Ck_I (Or.inr rfl)
  refine RC_G (W := [71]) h hF rfl (fun f hf i => aS_If (by simpa using hf)) rfl rfl (by decide) (by decide) (KSc_I (by decide) h.1) ?_ ?_
  · have := KBl_fr hF (by decide) h.2.2.2.2.2.1
    unfold KBl aBn aBt at this ⊢
    simp only [aS_If (show (29 : Nat) ≠ 71 by decide), aS_If (show (30 : Nat) ≠ 71 by decide), aS_If (show (31 : Nat) ≠ 71 by decide), aS_If (show (32 : Nat) ≠ 71 by decide)]
    exact this
  · have n := h.2.2.2.2.2.2.2.2.2.2.2.2.2.2.2.2.2.2.2.2.2.2
    unfold nwOK aNow at n ⊢
    simp only [aS_If (show (1 : Nat) ≠ 71 by decide), aS_If (show (72 : Nat) ≠ 71 by decide), aS_If (show (27 : Nat) ≠ 71 by decide)]
    refine ⟨n.1, n.2.1, n.2.2.1, fun t ht => ?_, n.2.2.2.2⟩
    rw [aS_I]
    split
    · exact Or.inl rfl
    · exact n.2.2.2.1 t ht
/-- a sync: what is done at once, what is due then -/
def aSync1 (a : AA) (s : Nat) : AA × Int32 :=
  if aS (sy1 a s) 73 s = 2 then
    let a3 := aI (sy1 a s) 79 s (aS (sy1 a s) 79 s ||| (1 <<< Int32.ofNat s))
    (a3, if aMaj (aS a3 65 s) (aS a3 79 s) then 2 else 0)
  else if aS (sy1 a s) 73 s = 3 then (sy2 a s, 8)
  else (sy1 a s, 0)
theorem K_sync {F : Nat} {c : CS} {a : AA} {s : Nat} {H : List (Nat × Option AL)} {U : Nat → Int32} {N : Nat × Nat} (hF : 130 ≤ F) (h : RC c a ((H, U), N)) (hs : s < 7) (wf : ∀ l ∈ aWt a s, wfL l) (hH : H.length ≤ 5) : WP (k_Server_sync F c s) (fun c' => RC c' (aSync1 a s).1 ((H, aU U s (U s ||| (aSync1 a s).2)), N)) := by
  unfold k_Server_sync k_Server_sync_b0 k_Server_sync_b115
  refine WP_call (K_syncAll (by omega) h hs) (fun c1 h1 => ?_)
  unfold cputZ
  rw [if_pos (Or.inl rfl)]
  refine WP_b ?_
  have h2 := RC_71z (s := s) h1
  have e0 : aI (aI (aSyncFiles a s 16) 46 s 0) 71 s 0 = A_syncAll a s := rfl
  rw [e0] at h2
  have ew : aWt (A_syncAll a s) = aWt a := (@AFr_syncAll a s).2.2.1 (by decide)
  refine WP_call (K_postWaiting hF h2 hs (by rw [ew]; exact wf) hH) (fun c3 h3 => ?_)
  rw [ew] at h3
  rw [K_r h3 (F := 56) (cl := 9) (f := 6) (by decide) hs]
  have h4 := RC_I (x := aS (A_sendAllOut (aWtS (A_syncAll a s) s []) (aWt a s)) 56 s) h3 (F := 77) (cl := 9) (f := 11) (i := s) (by decide) (by decide)
  refine WP_b ?_
  have e1 : aI (A_sendAllOut (aWtS (A_syncAll a s) s []) (aWt a s)) 77 s (aS (A_sendAllOut (aWtS (A_syncAll a s) s []) (aWt a s)) 56 s) = sy1 a s := rfl
  rw [e1] at h4
  unfold aSync1 sy2
  generalize sy1 a s = b at h4
  generalize csI c3 9 s 11 0 (aS (A_sendAllOut (aWtS (A_syncAll a s) s []) (aWt a s)) 56 s) = c4 at h4
  rw [K_r h4 (F := 73) (cl := 13) (f := 12) (by decide) hs]
  refine WP_if c2_ne (fun q => ?_) (fun q => ?_)
  · rw [if_neg q]
    refine WP_if c2_ne (fun q2 => ?_) (fun q2 => ?_)
    · rw [if_neg q2]
      dsimp only
      rw [aU_or0]
      exact WP_some h4
    · have hr : aS b 73 s = 3 := Classical.not_not.mp q2
      rw [if_pos hr, RC_b1 h4 hs, K_r h4 (F := 77) (cl := 9) (f := 11) (by decide) hs, K_cwr (F := 87) (by decide) hs]
      refine WP_b ?_
      have h5 := RC_ldw (s := s) (x := aS b 77 s) h4 (F := 87) (f := 1) (by decide) hs
      exact WP_b (WP_some (K_due h5 hs))
  · have hr : aS b 73 s = 2 := Classical.not_not.mp q
    rw [if_pos hr, RC_b1 h4 hs, K_r h4 (F := 79) (cl := 13) (f := 15) (by decide) hs, i_31 (by omega)]
    dsimp only
    have h5 := RC_I (x := aS b 79 s ||| (1 <<< Int32.ofNat s)) h4 (F := 79) (cl := 13) (f := 15) (i := s) (by decide) (by decide)
    refine WP_b ?_
    generalize aI b 79 s (aS b 79 s ||| (1 <<< Int32.ofNat s)) = e at h5
    rw [K_r h5 (F := 79) (cl := 13) (f := 15) (by decide) hs, K_isMajority h5 hs]
    refine WP_b ?_
    cases hmj : aMaj (aS e 65 s) (aS e 79 s) with
    | false =>
      rw [if_pos (show xc0 ClassFile.Cond.eq (aB false) = true by decide), if_neg (show ¬ false = true by decide), aU_or0]
      exact WP_some h5
    | true =>
      rw [if_neg (show ¬ xc0 ClassFile.Cond.eq (aB true) = true by decide), if_pos rfl]
      exact WP_b (WP_some (K_due h5 hs))
theorem RC_52z {c : CS} {a : AA} {v : CV} {s : Nat} (h : RC c a v) : RC (csI c 13 s 8 0 0) (aI a 52 s 0) v := by
  have hF : Ck [424] s c (csI c 13 s 8 0 0) := Ck_I (cl := 13) (i := s) (f := 8) (Or.inr rfl)
  have e : ∀ g, g ∉ [52] → ∀ j, aS (aI a 52 s 0) g j = aS a g j := fun g hg j => aS_If (fun z => hg (by rw [z]; exact List.mem_cons_self))
  have e52 : ∀ t, aS (aI a 52 s 0) 52 t = 1 → aS a 52 t = 1 ∧ t ≠ s := by
    intro t ht
    rw [aS_I] at ht
    by_cases q : t = s
    · rw [if_pos ⟨rfl, q⟩] at ht
      exact absurd ht (by decide)
    · rw [if_neg (fun z => q z.2)] at ht
      exact ⟨ht, q⟩
  have hfr : ∀ t, t < 7 → aS (aI a 52 s 0) 52 t = 1 → cI (csI c 13 s 8 0 0) 6 t 7 0 = aS (aI a 52 s 0) 46 t := fun t ht hu => (csI_cl (by decide)).trans ((h.2.1 t ht (e52 t hu).1).trans (e 46 (by decide) t).symm)
  have hrq : ∀ t, t < 7 → aS (aI a 52 s 0) 52 t = 1 → KRq (csI c 13 s 8 0 0) t (aS (aI a 52 s 0) 151 t) (aRq (aI a 52 s 0) t) := by
    intro t ht hu
    rw [e 151 (by decide)]
    exact KRq_fr hF (by decide) (h.2.2.2.2.1 t ht (e52 t hu).1)
  have hsh : ∀ t, t < 7 → aS (aI a 52 s 0) 52 t = 1 → shOK (aI a 52 s 0) t := fun t ht hu => shOK_f (h.2.2.2.2.2.2.2.2.2.2.2.2.2.2.2.2.2.2.2.2.2.1 t ht (e52 t hu).1) (e 47 (by decide) t) (e 67 (by decide) t) rfl (fun _ _ => rfl)
  exact ⟨KSc_I (by decide) h.1, hfr, hd_k hF (by decide) e (by decide) h.2.2.1, ld_k hF (by decide) e (by decide) h.2.2.2.1, hrq, bl_k hF (by decide) e (by decide) h.2.2.2.2.2.1, da_k hF (by decide) e (by decide) rfl h.2.2.2.2.2.2.1, lw_k hF (by decide) e (by decide) h.2.2.2.2.2.2.2.1, fun s hs => KG_fr hF (by decide) (h.2.2.2.2.2.2.2.2.1 s hs), fun s hs => KPg_fr hF (by decide) (h.2.2.2.2.2.2.2.2.2.1 s hs), fun s hs => KCh_fr hF (by decide) (h.2.2.2.2.2.2.2.2.2.2.1 s hs), fun s hs => KMc_fr hF (by decide) (h.2.2.2.2.2.2.2.2.2.2.2.1 s hs), pc_k hF (by decide) e (by decide) rfl h.2.2.2.2.2.2.2.2.2.2.2.2.1, cl_k hF (by decide) e (by decide) h.2.2.2.2.2.2.2.2.2.2.2.2.2.1, fun k hk => KDn_fr hF (by decide) (h.2.2.2.2.2.2.2.2.2.2.2.2.2.2.1 k hk), KAk_fr hF (by decide) h.2.2.2.2.2.2.2.2.2.2.2.2.2.2.2.1, KFc_fr hF (by decide) h.2.2.2.2.2.2.2.2.2.2.2.2.2.2.2.2.1, id_k hF (by decide) e (by decide) h.2.2.2.2.2.2.2.2.2.2.2.2.2.2.2.2.2.1, fun k hk => KIc_fr hF (by decide) (h.2.2.2.2.2.2.2.2.2.2.2.2.2.2.2.2.2.2.1 k hk), KLt_fr hF rfl (by decide) h.2.2.2.2.2.2.2.2.2.2.2.2.2.2.2.2.2.2.2.1, KRm_fr hF rfl (by decide) h.2.2.2.2.2.2.2.2.2.2.2.2.2.2.2.2.2.2.2.2.1, hsh, nw_k e (by decide) h.2.2.2.2.2.2.2.2.2.2.2.2.2.2.2.2.2.2.2.2.2.2⟩
