/-! requests dropped, stepping down, votes asked for -/
def PX (K I : Nat) (fs : List Nat) (c c' : CS) : Prop := (∀ cl i f, ¬ (cl = K ∧ i = I ∧ f ∈ fs) → Sm c c' cl i f) ∧ cT c' = cT c ∧ cL c' = cL c ∧ cS c' = cS c
theorem PX_r {K I : Nat} {fs : List Nat} {c : CS} : PX K I fs c c := ⟨fun _ _ _ _ => Sm_r, rfl, rfl, rfl⟩
theorem PX_t {K I : Nat} {fs : List Nat} {c c' c2 : CS} (h : PX K I fs c c') (h' : PX K I fs c' c2) : PX K I fs c c2 := ⟨fun cl i f z => Sm_t (h.1 cl i f z) (h'.1 cl i f z), h'.2.1.trans h.2.1, h'.2.2.1.trans h.2.2.1, h'.2.2.2.trans h.2.2.2⟩
theorem PX_I {K I f j : Nat} {fs : List Nat} {c : CS} {x : Int32} (hf : f ∈ fs) : PX K I fs c (csI c K I f j x) := ⟨fun cl i g z => ⟨fun y => if_neg (fun w => z ⟨w.1, w.2.1, by rw [w.2.2.1]; exact hf⟩), fun _ => rfl, rfl, rfl⟩, rfl, rfl, rfl⟩
theorem PX_A {K I f : Nat} {fs : List Nat} {c : CS} {x : Nat → Int32} (hf : f ∈ fs) : PX K I fs c (csA c K I f x) := ⟨fun cl i g z => ⟨fun y => if_neg (fun w => z ⟨w.1, w.2.1, by rw [w.2.2]; exact hf⟩), fun _ => rfl, rfl, rfl⟩, rfl, rfl, rfl⟩
theorem PX_k {K I s : Nat} {fs D : List Nat} {c c' : CS} (h : PX K I fs c c') (hq : cShd K = true ∨ cOwn K I = s) (hD : ∀ f ∈ fs, 32 * K + f ∈ D) : Ck D s c c' := by
  intro cl i f hf z
  refine h.1 cl i f (fun y => ?_)
  obtain ⟨rfl, rfl, y3⟩ := y
  rcases z with z | ⟨z1, z2⟩
  · exact z (hD f y3)
  · rcases hq with hq | hq
    · rw [z1] at hq
      cases hq
    · exact z2 hq
theorem dropL {F : Nat} {s : Nat} : ∀ n k (c : CS), 33 ≤ k + n → k ≤ 32 → (∀ w, w < k → cI c 12 s 0 w = 0) → WP (k_Requests_dropAll_b2 F n c s (Int32.ofNat k)) (fun c' => PX 12 s [0, 8] c c' ∧ (∀ w, w < 32 → cI c' 12 s 0 w = 0) ∧ cI c' 12 s 8 0 = 0) := by
  intro n
  induction n with
  | zero => intro k c h1 h2; omega
  | succ n ih =>
    intro k c h1 h2 h3
    unfold k_Requests_dropAll_b2
    dsimp only
    by_cases q : k = 32
    · subst q
      rw [if_pos (by decide)]
      refine WP_b (WP_some ⟨PX_I (by decide), fun w hw => ?_, csI_e⟩)
      rw [csI_f (by decide)]
      exact h3 w hw
    · rw [if_neg (fun y => by
        rw [show (32 : Int32) = Int32.ofNat 32 from rfl] at y
        have := (i_gei (by omega) (by omega)).mp y
        omega), show (0 : Int32) &&& 1 = 0 by decide]
      refine WP_eq (cwr_n rfl (show k < 32 by omega) (by omega)) ?_
      rw [i_s]
      refine WP_mono (ih (k + 1) (csI c 12 s 0 k 0) (by omega) (by omega) (fun w hw => ?_)) (fun c' hc' => ⟨PX_t (PX_I (by decide)) hc'.1, hc'.2⟩)
      by_cases z : w = k
      · rw [z, csI_e]
      · rw [csI_j z]
        exact h3 w (by omega)
/-- other requests of a server -/
theorem RC_rq {c c' : CS} {a : AA} {v : CV} {s : Nat} {rq : List AQ} (h : RC c a v) (hF : Ck [384, 385, 386, 387, 388, 389, 390, 392] s c c') (hT : cT c' = cT c) (hr : aS a 52 s = 1 → KRq c' s (aS a 151 s) rq) : RC c' (aRqS a s rq) v := by
  have hl : ∀ t, t < 7 → aS (aRqS a s rq) 52 t = 1 → KRq c' t (aS (aRqS a s rq) 151 t) (aRq (aRqS a s rq) t) := by
    intro t ht hu
    have e : aRq (aRqS a s rq) t = if t = s then rq else aRq a t := rfl
    rw [e]
    by_cases q : t = s
    · rw [if_pos q, q]
      exact hr (q ▸ hu)
    · rw [if_neg q]
      exact KRq_ne hF (by decide) q (h.2.2.2.2.1 t ht hu)
  exact ⟨KSc_fr hF (by decide) h.1, fun s hs hu => KFr_fr hF (by decide) (h.2.1 s hs hu), fun s hs => KHd_fr hF (by decide) (h.2.2.1 s hs), fun s hs hr => KLd_fr hF (by decide) (h.2.2.2.1 s hs hr), hl, KBl_fr hF (by decide) h.2.2.2.2.2.1, KDa_fr hF (by decide) h.2.2.2.2.2.2.1, fun s hs => KLw_fr hF (by decide) (h.2.2.2.2.2.2.2.1 s hs), fun s hs => KG_fr hF (by decide) (h.2.2.2.2.2.2.2.2.1 s hs), fun s hs => KPg_fr hF (by decide) (h.2.2.2.2.2.2.2.2.2.1 s hs), fun s hs => KCh_fr hF (by decide) (h.2.2.2.2.2.2.2.2.2.2.1 s hs), fun s hs => KMc_fr hF (by decide) (h.2.2.2.2.2.2.2.2.2.2.2.1 s hs), fun s hs => KPc_fr hF (by decide) (h.2.2.2.2.2.2.2.2.2.2.2.2.1 s hs), fun k hk => KCl_fr hF (by decide) (h.2.2.2.2.2.2.2.2.2.2.2.2.2.1 k hk), fun k hk => KDn_fr hF (by decide) (h.2.2.2.2.2.2.2.2.2.2.2.2.2.2.1 k hk), KAk_fr hF (by decide) h.2.2.2.2.2.2.2.2.2.2.2.2.2.2.2.1, KFc_fr hF (by decide) h.2.2.2.2.2.2.2.2.2.2.2.2.2.2.2.2.1, fun s hs => KId_fr hF (by decide) (h.2.2.2.2.2.2.2.2.2.2.2.2.2.2.2.2.2.1 s hs), fun k hk => KIc_fr hF (by decide) (h.2.2.2.2.2.2.2.2.2.2.2.2.2.2.2.2.2.2.1 k hk), KLt_fr hF hT (by decide) h.2.2.2.2.2.2.2.2.2.2.2.2.2.2.2.2.2.2.2.1, KRm_fr hF hT (by decide) h.2.2.2.2.2.2.2.2.2.2.2.2.2.2.2.2.2.2.2.2.1, h.2.2.2.2.2.2.2.2.2.2.2.2.2.2.2.2.2.2.2.2.2.1, h.2.2.2.2.2.2.2.2.2.2.2.2.2.2.2.2.2.2.2.2.2.2⟩
theorem KRq_nil {c c' : CS} {s : Nat} {n : Int32} {rq : List AQ} (h : KRq c s n rq) (h1 : ∀ w, w < 32 → cI c' 12 s 0 w = 0) (h2 : cI c' 12 s 8 0 = 0) : KRq c' s n [] := by
  obtain ⟨b, b1, b2, _⟩ := h
  exact ⟨b, b1, b2, List.Pairwise.nil, fun q hq => absurd hq List.not_mem_nil, fun w hw => by rw [h1 w hw]; simp, by rw [h2]; rfl⟩
theorem K_dropAll {F : Nat} {c : CS} {a : AA} {v : CV} {s : Nat} (hF : 33 ≤ F) (h : RC c a v) (hs : s < 7) : WP (k_Requests_dropAll F c s) (fun c' => RC c' (aDropReq a s) v) := by
  unfold k_Requests_dropAll k_Requests_dropAll_b0
  refine WP_mono (dropL F 0 c (by omega) (by omega) (fun w hw => by omega)) (fun c' hc' => ?_)
  obtain ⟨p1, p2, p3⟩ := hc'
  exact RC_rq h (PX_k p1 (Or.inr rfl) (by decide)) p1.2.1 (fun hu => KRq_nil (h.2.2.2.2.1 s hs hu) p2 p3)
/-- another role, not leading -/
theorem RC_73 {c : CS} {a : AA} {v : CV} {s : Nat} {x : Int32} (h : RC c a v) (hx : ¬ x = 3) : RC (csI c 13 s 12 0 x) (aI a 73 s x) v := by
  have hF : Ck [32 * 13 + 12] s c (csI c 13 s 12 0 x) := Ck_I (Or.inr rfl)
  have e := eI1 (a := a) (f := 73) (i := s) (x := x)
  have hl : ∀ t, t < 7 → aS (aI a 73 s x) 73 t = 3 → KLd (csI c 13 s 12 0 x) (aI a 73 s x) t := by
    intro t ht hr
    have e1 : aS (aI a 73 s x) 73 t = if t = s then x else aS a 73 t := by
      rw [aS_I]
      by_cases q : t = s
      · rw [if_pos ⟨rfl, q⟩, if_pos q]
      · rw [if_neg (fun z => q z.2), if_neg q]
    rw [e1] at hr
    by_cases q : t = s
    · rw [if_pos q] at hr
      exact absurd hr hx
    · rw [if_neg q] at hr
      exact KLd_al e (by decide) (KLd_fr hF (by decide) (h.2.2.2.1 t ht hr))
  exact ⟨KSc_I (by decide) h.1, fr_k hF (by decide) e (by decide) h.2.1, hd_k hF (by decide) e (by decide) h.2.2.1, hl, rq_k hF (by decide) e (by decide) rfl h.2.2.2.2.1, bl_k hF (by decide) e (by decide) h.2.2.2.2.2.1, da_k hF (by decide) e (by decide) rfl h.2.2.2.2.2.2.1, lw_k hF (by decide) e (by decide) h.2.2.2.2.2.2.2.1, fun s hs => KG_fr hF (by decide) (h.2.2.2.2.2.2.2.2.1 s hs), fun s hs => KPg_fr hF (by decide) (h.2.2.2.2.2.2.2.2.2.1 s hs), fun s hs => KCh_fr hF (by decide) (h.2.2.2.2.2.2.2.2.2.2.1 s hs), fun s hs => KMc_fr hF (by decide) (h.2.2.2.2.2.2.2.2.2.2.2.1 s hs), pc_k hF (by decide) e (by decide) rfl h.2.2.2.2.2.2.2.2.2.2.2.2.1, cl_k hF (by decide) e (by decide) h.2.2.2.2.2.2.2.2.2.2.2.2.2.1, fun k hk => KDn_fr hF (by decide) (h.2.2.2.2.2.2.2.2.2.2.2.2.2.2.1 k hk), KAk_fr hF (by decide) h.2.2.2.2.2.2.2.2.2.2.2.2.2.2.2.1, KFc_fr hF (by decide) h.2.2.2.2.2.2.2.2.2.2.2.2.2.2.2.2.1, id_k hF (by decide) e (by decide) h.2.2.2.2.2.2.2.2.2.2.2.2.2.2.2.2.2.1, fun k hk => KIc_fr hF (by decide) (h.2.2.2.2.2.2.2.2.2.2.2.2.2.2.2.2.2.2.1 k hk), KLt_fr hF rfl (by decide) h.2.2.2.2.2.2.2.2.2.2.2.2.2.2.2.2.2.2.2.1, KRm_fr hF rfl (by decide) h.2.2.2.2.2.2.2.2.2.2.2.2.2.2.2.2.2.2.2.2.1, sh_k e (by decide) rfl rfl h.2.2.2.2.2.2.2.2.2.2.2.2.2.2.2.2.2.2.2.2.2.1, nw_k e (by decide) h.2.2.2.2.2.2.2.2.2.2.2.2.2.2.2.2.2.2.2.2.2.2⟩
theorem K_follow {c : CS} {a : AA} {v : CV} {s : Nat} {l : Int32} (h : RC c a v) : WP (k_Server_follow c s l) (fun c' => RC c' (aI (aI a 73 s 0) 74 s l) v) := by
  unfold k_Server_follow k_Server_follow_b0
  exact WP_b (WP_b (WP_some (RC_I (RC_73 h (by decide)) (by decide) (by decide))))
theorem MD_p1 {a : AA} : MD 1 a (aAdd a 2 0 1) := fun m hm => ⟨1, Nat.le_refl _, by
  have e : aS (aAdd a 2 0 1) 2 0 = aS a 2 0 + 1 := rfl
  rw [e, hm, i_s]⟩
theorem MD_soil {a : AA} {s : Nat} : MD 1 a (aSoil a s) := by
  unfold aSoil
  refine MD_if (fun m hm => ⟨1, Nat.le_refl _, ?_⟩) (MD_w (MD_e rfl) (by omega))
  have e : aS (aAdd (aI (aI (aI a 71 s 1) 32 s (aNow a + aS a 72 s)) 31 s (aS a 2 0)) 2 0 1) 2 0 = aS (aI (aI (aI a 71 s 1) 32 s (aNow a + aS a 72 s)) 31 s (aS a 2 0)) 2 0 + 1 := rfl
  rw [e, aS_If (by decide), aS_If (by decide), aS_If (by decide), hm, i_s]
theorem MD_alarm {a : AA} {e : Nat} {t : Int32} : MD 1 a (A_alarm a e t) := fun m hm => ⟨1, Nat.le_refl _, by
  have e1 : aS (A_alarm a e t) 2 0 = aS (aI (aI a 30 e t) 29 e (aS a 2 0)) 2 0 + 1 := rfl
  rw [e1, aS_If (by decide), aS_If (by decide), hm, i_s]⟩
theorem MD_drawAlarm {a : AA} {s : Nat} : MD 1 a (A_drawAlarm a s) := by
  unfold A_drawAlarm
  exact MD_alarm (a := aJ a 84 s (aLcg (a.1.2 84 s)))
theorem MD_fr {W T : List Nat} {a b : AA} (h : AFr W T a b) (q : 2 ∉ W) : MD 0 a b := MD_e (h.1 2 q 0)
theorem MD_writeSlot {a : AA} {s : Nat} : MD 1 a (A_writeSlot a s) := MD_w (MD_t (MD_fr AFr_laySlot (by decide)) MD_soil) (by omega)
theorem WLg_fr {W T : List Nat} {a b : AA} {s : Nat} (h : AFr W T a b) (q : dj [55, 56] W = true) (q2 : 2 ∉ T) (w : WLg a s) : WLg b s := by
  unfold WLg aBase aLast at w ⊢
  rw [h.1 55 (dj_m q (by decide)), h.1 56 (dj_m q (by decide)), h.2.2.2.1 q2]
  exact w
/-- what a step down is made of -/
def sd1 (a : AA) (s : Nat) (t : Int32) : AA := if aS a 53 s < t then A_writeSlot (aI (aI a 53 s t) 54 s (-1)) s else a
theorem AFr_sd1 {a : AA} {s : Nat} {t : Int32} : AFr [53, 54, 150, 43, 45, 46, 2, 31, 32, 71] [6] a (sd1 a s t) := AFr_w (AFr_if (AFr_t (AFr_t AFr_I AFr_I) AFr_writeSlot) AFr_r) (by decide) (by decide)
theorem MD_sd1 {a : AA} {s : Nat} {t : Int32} : MD 1 a (sd1 a s t) := by
  unfold sd1
  exact MD_if (MD_w (MD_t (MD_e ((aS_If (by decide)).trans (aS_If (by decide)))) MD_writeSlot) (by omega)) (MD_w (MD_e rfl) (by omega))
theorem K_stepDown {F : Nat} {c : CS} {a : AA} {v : CV} {s : Nat} {t l : Int32} (hF : 33 ≤ F) (h : RC c a v) (hs : s < 7) (hup : aS a 52 s = 1) (hl : aLoc a) (hm : mdOK a 1) : WP (k_Server_stepDown F c s t l) (fun c' => RC c' (A_stepDown a s t l) v) := by
  have rest : ∀ c1, RC c1 (sd1 a s t) v → WP (k_Server_stepDown_b14 F c1 s l) (fun c' => RC c' (A_stepDown a s t l) v) := by
    intro c1 h1
    have ea : A_stepDown a s t l = aI (aI (if aS (sd1 a s t) 73 s = 3 then aI (aDropReq (A_drawAlarm (sd1 a s t) s) s) 80 s (-1) else sd1 a s t) 73 s 0) 74 s l := rfl
    rw [ea]
    have hm1 : mdOK (sd1 a s t) 0 := mdOK_t hm MD_sd1 (by omega)
    generalize sd1 a s t = b at h1 hm1
    unfold k_Server_stepDown_b14 k_Server_stepDown_b48
    rw [K_r h1 (F := 73) (cl := 13) (f := 12) (by decide) hs]
    refine WP_if (p := ¬ aS b 73 s = 3) c2_ne (fun q => ?_) (fun q => ?_)
    · rw [if_neg q]
      exact WP_call (K_follow h1) (fun c' h' => WP_some h')
    · rw [if_pos (Classical.not_not.mp q), RC_b1 h1 hs]
      refine WP_call (K_drawAlarm h1 hs hm1) (fun c2 h2 => WP_call (K_dropAll hF h2 hs) (fun c3 h3 => WP_b ?_))
      have h4 := RC_I (x := -1) h3 (F := 80) (cl := 7) (f := 10) (i := s) (by decide) (by decide)
      exact WP_call (K_follow h4) (fun c' h' => WP_some h')
  unfold k_Server_stepDown k_Server_stepDown_b0
  rw [K_r h (F := 53) (cl := 13) (f := 10) (by decide) hs]
  refine WP_if (p := ¬ aS a 53 s < t) (by rw [c2_le, i_nlt]) (fun q => ?_) (fun q => ?_)
  · refine rest c ?_
    unfold sd1
    rw [if_neg q]
    exact h
  · refine WP_call (K_saveTerm (x := t) (y := -1) h hs hup hl (mdOK_w hm (by omega))) (fun c1 h1 => rest c1 ?_)
    unfold sd1
    rw [if_pos (Classical.not_not.mp q)]
    exact h1
/-! votes are asked for -/
theorem aAskOne_no {a : AA} {s p : Nat} {k t : Int32} (h : (!decide (p = s) && aVoter a s p) = false) : aAskOne a s k t p = a := by
  unfold aAskOne
  exact if_neg (fun z => by rw [show (!decide (p = s) && aIn (aVoters a s) p) = (!decide (p = s) && aVoter a s p) from rfl, h] at z; exact absurd z (by decide))
theorem aAskOne_yes {a : AA} {s p : Nat} {k t : Int32} (h : (!decide (p = s) && aVoter a s p) = true) : aAskOne a s k t p = A_post a s (aLn (aLn (aLet (Int32.ofNat s) (Int32.ofNat p) k t) 7 (aLast a s)) 8 (aLastTerm a s)) := by
  unfold aAskOne
  exact if_pos h
theorem K_askVoters {F : Nat} {c : CS} {a : AA} {s : Nat} {k t : Int32} {H : List (Nat × Option AL)} {U : Nat → Int32} {N : Nat × Nat} (hF : 130 ≤ F) (h : RC c a ((H, U), N)) (hs : s < 7) (w : WLg a s) (hk : k = 1 ∨ k = 3) (hH : H.length ≤ 5) : WP (k_Server_askVoters F c s k t) (fun c' => RC c' (aAskVoters a s k t 7) ((H, U), N)) := by
  obtain ⟨x, x1, x2⟩ := K_voters h hs
  unfold k_Server_askVoters k_Server_askVoters_b0
  rw [x1, RC_b1 h hs]
  refine WP_b ?_
  have key : ∀ n p c, 8 ≤ p + n → p ≤ 7 → RC c (aAskVoters a s k t p) ((H, U), N) → WP (k_Server_askVoters_b17 F n c s k t (x &&& ((1 <<< (Int32.ofNat s &&& 31)) ^^^ (-1))) (Int32.ofNat p)) (fun c' => RC c' (aAskVoters a s k t 7) ((H, U), N)) := by
    intro n
    induction n with
    | zero => intro p c h1 h2; omega
    | succ n ih =>
      intro p c h1 h2 h3
      unfold k_Server_askVoters_b17
      dsimp only
      unfold k_Server_askVoters_b85
      by_cases q : p = 7
      · subst q
        rw [if_pos (by decide)]
        exact WP_some h3
      · have hp : p < 7 := by omega
        rw [if_neg (fun y => by
          rw [show (7 : Int32) = Int32.ofNat 7 from rfl] at y
          have := (i_gei (by omega) (by omega)).mp y
          omega)]
        have fr := AFr_askVoters (a := a) (s := s) (k := k) (t := t) p
        have e65 : aS (aAskVoters a s k t p) 65 s = aS a 65 s := fr.1 65 (by decide) s
        have ev : aVoter (aAskVoters a s k t p) s p = aVoter a s p := by
          unfold aVoter aVoters
          rw [e65]
        have ebit : aIn (x &&& ((1 <<< (Int32.ofNat s &&& 31)) ^^^ (-1))) p = (!decide (p = s) && aVoter (aAskVoters a s k t p) s p) := by
          rw [aIn_and (by omega), x2 p hp, aIn_n s hs p hp, ev, Bool.and_comm]
        have es : aAskVoters a s k t (p + 1) = aAskOne (aAskVoters a s k t p) s k t p := rfl
        have wb : WLg (aAskVoters a s k t p) s := WLg_fr fr (by decide) (by decide) w
        generalize aAskVoters a s k t p = b at h3 ebit es wb
        by_cases z : aIn (x &&& ((1 <<< (Int32.ofNat s &&& 31)) ^^^ (-1))) p = false
        · rw [if_pos ((bit_k hp).mpr z), i_s]
          refine ih (p + 1) c (by omega) (by omega) ?_
          rw [es, aAskOne_no (by rw [← ebit]; exact z)]
          exact h3
        · have z' : aIn (x &&& ((1 <<< (Int32.ofNat s &&& 31)) ^^^ (-1))) p = true := by simpa using z
          rw [if_neg (fun y => z ((bit_k hp).mp y))]
          refine WP_call (K_letterTo h3 hs (by omega)) (fun r hr => ?_)
          obtain ⟨g1, l2, l3, l4, l5, l6, l17⟩ := hr
          refine WP_b (WP_b ?_)
          have g2 := RC_I8 (ad := r.1) (f := 5) (j := 0) (x := t) g1
          rw [K_r g2 (F := 56) (cl := 9) (f := 6) (by decide) hs]
          have g3 := RC_I8 (ad := r.1) (f := 7) (j := 0) (x := aS b 56 s) g2
          have e7 : cI (csI (csI r.2 8 r.1 5 0 t) 8 r.1 7 0 (aS b 56 s)) 9 s 6 0 = aS b 56 s := K_r g3 (F := 56) (cl := 9) (f := 6) (by decide) hs
          rw [e7, K_termAt g3 hs wb]
          refine WP_b (WP_b ?_)
          have g4 := RC_I8 (ad := r.1) (f := 8) (j := 0) (x := aTermAt b s (aS b 56 s)) g3
          refine WP_call (K_dispatch (l := aLn (aLn (aLet (Int32.ofNat s) (Int32.ofNat p) k t) 7 (aLast b s)) 8 (aLastTerm b s)) hF (RC_fin g4 (LR_mk ?_ ?_ ?_ ?_ ?_ ?_)) hs (wf_of hs (Or.inl (end_s hp)) rfl rfl) hH) (fun c' h' => ?_)
          · rw [csI_f (by decide), csI_f (by decide), csI_f (by decide), l2]
            rfl
          · rw [csI_f (by decide), csI_f (by decide), csI_f (by decide), l3]
            rfl
          · rw [csI_f (by decide), csI_f (by decide), csI_f (by decide), l4]
            rfl
          · rw [csI_f (by decide), csI_f (by decide), csI_e]
            rfl
          · have e : lFs k = [7, 8] := by
              rcases hk with rfl | rfl
              · exact lF1
              · exact lF3
            show ∀ j ∈ lFs k, _
            rw [e]
            intro j hj
            simp only [List.mem_cons, List.not_mem_nil, or_false] at hj
            rcases hj with rfl | rfl
            · rw [csI_f (by decide), csI_e]
              rfl
            · rw [csI_e]
              rfl
          · show k ≠ 5 ∧ k ≠ 7 ∧ k ≠ 11
            rcases hk with rfl | rfl <;> decide
          · rw [i_s]
            refine ih (p + 1) c' (by omega) (by omega) ?_
            rw [es, aAskOne_yes (by rw [← ebit]; exact z')]
            exact h'
  exact key F 0 c (by omega) (by omega) h
theorem aLoc_fr {W T : List Nat} {a b : AA} (h : AFr W T a b) (q : dj [27, 43, 150, 45, 46] W = true) (q2 : 6 ∉ T) (l : aLoc a) : aLoc b := aLoc_al l (fun i => h.1 27 (dj_m q (by decide)) i) (fun i => h.1 43 (dj_m q (by decide)) i) (fun i => h.1 150 (dj_m q (by decide)) i) (fun i => h.1 45 (dj_m q (by decide)) i) (fun i => h.1 46 (dj_m q (by decide)) i) (h.2.2.2.2.2.2.2.1 q2)
theorem K_campaign {F : Nat} {c : CS} {a : AA} {s : Nat} {H : List (Nat × Option AL)} {U : Nat → Int32} {N : Nat × Nat} (hF : 130 ≤ F) (h : RC c a ((H, U), N)) (hs : s < 7) (hup : aS a 52 s = 1) (hl : aLoc a) (w : WLg a s) (hm : mdOK a 1) (hH : H.length ≤ 5) : WP (k_Server_campaign F c s) (fun c' => RC c' (A_campaign a s) ((H, U), N)) := by
  unfold k_Server_campaign k_Server_campaign_b0
  have h1 := RC_73 (s := s) (x := 2) h (by decide)
  have h2 := RC_I (x := -1) h1 (F := 74) (cl := 13) (f := 13) (i := s) (by decide) (by decide)
  refine WP_b (WP_b ?_)
  rw [K_r h2 (F := 53) (cl := 13) (f := 10) (by decide) hs, RC_b1 h2 hs]
  have fr : AFr [73, 74] [] a (aI (aI a 73 s 2) 74 s (-1)) := AFr_w (AFr_t AFr_I AFr_I) (by decide) (by decide)
  have ea : A_campaign a s = aAskVoters (A_drawAlarm (aI (A_writeSlot (aI (aI (aI (aI a 73 s 2) 74 s (-1)) 53 s (aS (aI (aI a 73 s 2) 74 s (-1)) 53 s + 1)) 54 s (Int32.ofNat s)) s) 79 s 0) s) s 3 (aS (A_drawAlarm (aI (A_writeSlot (aI (aI (aI (aI a 73 s 2) 74 s (-1)) 53 s (aS (aI (aI a 73 s 2) 74 s (-1)) 53 s + 1)) 54 s (Int32.ofNat s)) s) 79 s 0) s) 53 s) 7 := rfl
  rw [ea]
  have hm2 := mdOK_s hm (fr.1 2 (by decide) 0)
  have w2 := WLg_fr fr (by decide) (by decide) w
  have hl2 := aLoc_fr fr (by decide) (by decide) hl
  have up2 := (fr.1 52 (by decide) s).trans hup
  generalize aI (aI a 73 s 2) 74 s (-1) = b at h2 hm2 w2 hl2 up2
  refine WP_call (K_saveTerm (x := aS b 53 s + 1) (y := Int32.ofNat s) h2 hs up2 hl2 (mdOK_w hm2 (by omega))) (fun c1 h3 => ?_)
  have fr3 : AFr [53, 54, 150, 43, 45, 46, 2, 31, 32, 71] [6] b (A_writeSlot (aI (aI b 53 s (aS b 53 s + 1)) 54 s (Int32.ofNat s)) s) := AFr_w (AFr_t (AFr_t AFr_I AFr_I) AFr_writeSlot) (by decide) (by decide)
  have hm3 : mdOK (A_writeSlot (aI (aI b 53 s (aS b 53 s + 1)) 54 s (Int32.ofNat s)) s) 0 := mdOK_t hm2 (MD_w (MD_t (MD_e ((aS_If (by decide)).trans (aS_If (by decide)))) MD_writeSlot) (j := 1) (by omega)) (by omega)
  have w3 := WLg_fr fr3 (by decide) (by decide) w2
  generalize A_writeSlot (aI (aI b 53 s (aS b 53 s + 1)) 54 s (Int32.ofNat s)) s = d at h3 hm3 w3
  have h4 := RC_I (x := 0) h3 (F := 79) (cl := 13) (f := 15) (i := s) (by decide) (by decide)
  refine WP_b ?_
  rw [RC_b1 h4 hs]
  refine WP_call (K_drawAlarm h4 hs (mdOK_s hm3 (aS_If (by decide)))) (fun c2 h5 => ?_)
  have w4 : WLg (A_drawAlarm (aI d 79 s 0) s) s := WLg_fr (AFr_t (AFr_I (a := d) (f := 79) (i := s) (v := 0)) AFr_drawAlarm) (by decide) (by decide) w3
  rw [K_r h5 (F := 53) (cl := 13) (f := 10) (by decide) hs]
  exact WP_call (K_askVoters hF h5 hs w4 (Or.inr rfl) hH) (fun c' h' => WP_some h')
