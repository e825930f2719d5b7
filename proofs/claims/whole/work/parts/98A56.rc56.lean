/-! what holds of a server besides: kept by each step -/
def cdOK (c : Int32) : Prop := (∃ p, p < 7 ∧ aIn (aOldM c) p = true) ∧ aLearn c = c >>> 14
def EX (a : AA) (s : Nat) : Prop := (aS a 151 s).toInt < 2147483000 ∧ dRq a s ∧ (¬ aS a 73 s = 3 → aRq a s = []) ∧ (∀ q ∈ aRq a s, rqC (aAk a) q) ∧ srtM (aMc a s) ∧ sBel (aMc a s) (aS a 76 s + 1) ∧ (∀ e ∈ aLg a s, ¬ e.1 = -1 ∧ (e.2.1 = 1 → cdOK e.2.2.2.1)) ∧ cdOK (aS a 58 s) ∧ cdOK (aS a 65 s) ∧ (aS a 73 s = 3 → ∀ p, p < 7 → 0 ≤ aS a 87 (7 * s + p) ∧ 0 ≤ aS a 91 (7 * s + p) ∧ 0 ≤ aS a 92 (7 * s + p)) ∧ (aS a 80 s = -1 ∨ 0 ≤ aS a 80 s)
def exW : List Nat := [151, 73, 76, 58, 65, 87, 91, 92, 80]
theorem EX_sub {W T : List Nat} {a b : AA} {s : Nat} (h : AFr W T a b) (q : dj exW W = true) (q2 : 2 ∉ T) (q3 : 3 ∉ T) (q10 : 10 ∉ T) (hsub : (aRq b s).Sublist (aRq a s)) (x : EX a s) : EX b s := by
  have e : ∀ f, f ∈ exW → ∀ i, aS b f i = aS a f i := fun f hf i => h.1 f (dj_m q hf) i
  have el : aLg b = aLg a := h.2.2.2.1 q2
  have em : aMc b = aMc a := h.2.2.2.2.1 q3
  have ek : aAk b = aAk a := h.2.2.2.2.2.2.2.2.2.2.2.1 q10
  obtain ⟨x1, x2, x3, x4, x5, x6, x7, x8, x9, x10, x11⟩ := x
  refine ⟨by rw [e 151 (by decide)]; exact x1, List.Pairwise.sublist hsub x2, fun hr => ?_, fun y hy => ?_, by rw [em]; exact x5, by rw [em, e 76 (by decide)]; exact x6, by rw [el]; exact x7, by rw [e 58 (by decide)]; exact x8, by rw [e 65 (by decide)]; exact x9, fun hr p hp => ?_, by rw [e 80 (by decide)]; exact x11⟩
  · rw [e 73 (by decide)] at hr
    have := x3 hr
    rw [this] at hsub
    exact List.sublist_nil.mp hsub
  · rw [ek]
    exact x4 y (hsub.mem hy)
  · rw [e 73 (by decide)] at hr
    rw [e 87 (by decide), e 91 (by decide), e 92 (by decide)]
    exact x10 hr p hp
theorem EX_fr {W T : List Nat} {a b : AA} {s : Nat} (h : AFr W T a b) (q : dj exW W = true) (q2 : 2 ∉ T) (q3 : 3 ∉ T) (q9 : 9 ∉ T) (q10 : 10 ∉ T) (x : EX a s) : EX b s :=
  EX_sub h q q2 q3 q10 (by rw [h.2.2.2.2.2.2.2.2.2.2.1 q9]; exact List.Sublist.refl _) x
theorem reads_sub {s : Nat} {c : Int32} : ∀ (l : List AQ) (a : AA), (aRq (aReads s c l a) s).Sublist (aRq a s)
  | [], a => List.Sublist.refl _
  | q :: r, a => by
    show (aRq (if ¬ q 6 = -1 ∧ q 4 ≤ aS a 76 s ∧ q 6 ≤ c then aReads s c r (aReply (aRqS a s ((aRq a s).filter (fun x => !decide (x 0 = q 0)))) s q 0 (aS a 76 s) (aQuery (aMc a s) ((aAk a).getD (q 3).toNatClampNeg (fun _ => 0, [])))) else aReads s c r a) s).Sublist (aRq a s)
    by_cases z : ¬ q 6 = -1 ∧ q 4 ≤ aS a 76 s ∧ q 6 ≤ c
    · rw [if_pos z]
      refine (reads_sub r _).trans ?_
      rw [AFr_reply.2.2.2.2.2.2.2.2.2.2.1 (by decide)]
      have e : aRq (aRqS a s ((aRq a s).filter (fun x => !decide (x 0 = q 0)))) s = (aRq a s).filter (fun x => !decide (x 0 = q 0)) := if_pos rfl
      rw [e]
      exact List.filter_sublist
    · rw [if_neg z]
      exact reads_sub r a
theorem EX_reads {a : AA} {s : Nat} (x : EX a s) : EX (A_answerReads a s) s := EX_sub AFr_answerReads (by decide) (by decide) (by decide) (by decide) (reads_sub _ _) x
theorem memC_ok : ∀ (g : List AE) (c : Int32), cdOK c → (∀ e ∈ g, e.2.1 = 1 → cdOK e.2.2.2.1) → cdOK (aMemC c g)
  | [], _, h, _ => h
  | e :: r, c, h, hg => by
    show cdOK (aMemC (if e.2.1 = 1 then e.2.2.2.1 else c) r)
    refine memC_ok r _ ?_ (fun x hx => hg x (List.mem_cons_of_mem _ hx))
    by_cases z : e.2.1 = 1
    · rw [if_pos z]
      exact hg e List.mem_cons_self z
    · rw [if_neg z]
      exact h
theorem EX_find {a : AA} {s : Nat} (x : EX a s) : EX (aFindCode a s) s := by
  obtain ⟨x1, x2, x3, x4, x5, x6, x7, x8, x9, x10, x11⟩ := x
  refine ⟨x1, x2, x3, x4, x5, x6, x7, x8, ?_, x10, x11⟩
  have e : aS (aFindCode a s) 65 s = aMemC (aS a 58 s) (aLg a s) := if_pos ⟨rfl, rfl⟩
  rw [e]
  exact memC_ok _ _ x8 (fun e he => (x7 e he).2)
/-- an agreed entry is done -/
theorem EX_ap1 {a : AA} {s : Nat} (x : EX a s) (w : wfM (aMc a s)) (hK : ∀ k ∈ aAk a, k.2.length ≤ 300 ∧ ∀ x ∈ k.2, aLow8 x = x) (hn : (aS a 76 s + 1).toInt < 2147483647) : EX (aApply1 a s (aS a 76 s + 1)) s := by
  have fr := @AFr_apply1 a s (aS a 76 s + 1)
  have e76 := @ap1_76 a s (aS a 76 s + 1)
  have emc := @ap1_mc a s (aS a 76 s + 1)
  have erq := @ap1_rq a s (aS a 76 s + 1)
  have hdr := dRq_ap (n := aS a 76 s + 1) x.2.1
  generalize aApply1 a s (aS a 76 s + 1) = X at fr e76 emc erq hdr
  have e : ∀ f, f ∈ [151, 73, 58, 65, 87, 91, 92, 80] → ∀ i, aS X f i = aS a f i := fun f hf i => fr.1 f (by revert f; decide) i
  have el : aLg X = aLg a := fr.2.2.2.1 (by decide)
  have ek : aAk X = aAk a := fr.2.2.2.2.2.2.2.2.2.2.2.1 (by decide)
  obtain ⟨x1, x2, x3, x4, x5, x6, x7, x8, x9, x10, x11⟩ := x
  refine ⟨by rw [e 151 (by decide)]; exact x1, hdr, fun hr => ?_, fun y hy => ?_, ?_, ?_, by rw [el]; exact x7, by rw [e 58 (by decide)]; exact x8, by rw [e 65 (by decide)]; exact x9, fun hr p hp => ?_, by rw [e 80 (by decide)]; exact x11⟩
  · rw [e 73 (by decide)] at hr
    rw [erq, x3 hr]
    rfl
  · rw [ek]
    rw [erq] at hy
    exact x4 y (List.mem_filter.mp hy).1
  · rw [emc]
    unfold apR
    by_cases y : (aEnt a s (aS a 76 s + 1)).2.1 = 2
    · rw [if_pos y]
      exact perf_srt x5 w hK
    · rw [if_neg y]
      exact x5
  · rw [emc, e76]
    unfold apR
    by_cases y : (aEnt a s (aS a 76 s + 1)).2.1 = 2
    · rw [if_pos y]
      exact sBel_perf x6 hn
    · rw [if_neg y]
      exact fun x hx => ⟨s_lt (x6 x hx).1 hn, s_lt (x6 x hx).2 hn⟩
  · rw [e 73 (by decide)] at hr
    rw [e 87 (by decide), e 91 (by decide), e 92 (by decide)]
    exact x10 hr p hp
/-- an entry is appended -/
theorem EX_app {a : AA} {s : Nat} {e : AE} (x : EX a s) (h1 : ¬ e.1 = -1) (h2 : e.2.1 = 1 → cdOK e.2.2.2.1) : EX (A_append a s e) s := by
  have fr := @AFr_app a s e
  have el : aLg (A_append a s e) s = aLg a s ++ [e] := by
    unfold A_append
    dsimp only
    rw [AFr_soil.2.2.2.1 (by decide)]
    split
    · exact if_pos rfl
    · exact if_pos rfl
  have e65 : aS (A_append a s e) 65 s = if e.2.1 = 1 then e.2.2.2.1 else aS a 65 s := by
    unfold A_append
    dsimp only
    rw [AFr_soil.1 65 (by decide)]
    by_cases z : e.2.1 = 1
    · rw [if_pos z, if_pos z]
      exact if_pos ⟨rfl, rfl⟩
    · rw [if_neg z, if_neg z]
      have fs : AFr [43] [6, 8] a (aSeg a s).1 := by
        unfold aSeg
        dsimp only
        split
        · exact AFr_w (AFr_t (AFr_t AFr_put AFr_I) AFr_ch) (by decide) (by decide)
        · exact AFr_w AFr_r (by decide) (by decide)
      exact fs.1 65 (by decide) s
  generalize A_append a s e = X at fr el e65
  have g : ∀ f, f ∈ [151, 73, 76, 58, 87, 91, 92, 80] → ∀ i, aS X f i = aS a f i := fun f hf i => fr.1 f (by revert f; decide) i
  have em : aMc X = aMc a := fr.2.2.2.2.1 (by decide)
  have er : aRq X = aRq a := fr.2.2.2.2.2.2.2.2.2.2.1 (by decide)
  have ek : aAk X = aAk a := fr.2.2.2.2.2.2.2.2.2.2.2.1 (by decide)
  obtain ⟨x1, x2, x3, x4, x5, x6, x7, x8, x9, x10, x11⟩ := x
  refine ⟨by rw [g 151 (by decide)]; exact x1, by unfold dRq; rw [er]; exact x2, by rw [g 73 (by decide), er]; exact x3, by rw [er, ek]; exact x4, by rw [em]; exact x5, by rw [em, g 76 (by decide)]; exact x6, fun y hy => ?_, by rw [g 58 (by decide)]; exact x8, ?_, fun hr p hp => ?_, by rw [g 80 (by decide)]; exact x11⟩
  · rw [el] at hy
    rcases List.mem_append.mp hy with z | z
    · exact x7 y z
    · rw [List.mem_singleton.mp z]
      exact ⟨h1, h2⟩
  · rw [e65]
    by_cases z : e.2.1 = 1
    · rw [if_pos z]
      exact h2 z
    · rw [if_neg z]
      exact x9
  · rw [g 73 (by decide)] at hr
    rw [g 87 (by decide), g 91 (by decide), g 92 (by decide)]
    exact x10 hr p hp
/-- numbers that may be put -/
theorem EX_80 {a : AA} {s : Nat} {v : Int32} (x : EX a s) (h : v = -1 ∨ 0 ≤ v) : EX (aI a 80 s v) s := by
  obtain ⟨x1, x2, x3, x4, x5, x6, x7, x8, x9, x10, x11⟩ := x
  refine ⟨x1, x2, x3, x4, x5, x6, x7, x8, x9, x10, ?_⟩
  have e : aS (aI a 80 s v) 80 s = v := if_pos ⟨rfl, rfl⟩
  rw [e]
  exact h
theorem EX_I {a : AA} {s f i : Nat} {v : Int32} (x : EX a s) (h : f ∉ exW) : EX (aI a f i v) s := EX_fr (AFr_I (f := f)) (by
  refine List.all_eq_true.mpr (fun y hy => ?_)
  have : y ≠ f := fun z => h (z ▸ hy)
  simpa using this) (by decide) (by decide) (by decide) (by decide) x
/-- the lead is lost, or there was none -/
theorem EX_down {a : AA} {s : Nat} {t l : Int32} (x : EX a s) : EX (A_stepDown a s t l) s := by
  have h1 : EX (sd1 a s t) s := EX_fr AFr_sd1 (by decide) (by decide) (by decide) (by decide) (by decide) x
  show EX (aI (aI (if aS (sd1 a s t) 73 s = 3 then aI (aDropReq (A_drawAlarm (sd1 a s t) s) s) 80 s (-1) else sd1 a s t) 73 s 0) 74 s l) s
  generalize sd1 a s t = b at h1
  have drop : ∀ d : AA, EX d s → aRq d s = [] → EX (aI d 73 s 0) s := by
    intro d hd hr
    obtain ⟨x1, x2, x3, x4, x5, x6, x7, x8, x9, x10, x11⟩ := hd
    have e73 : aS (aI d 73 s 0) 73 s = 0 := if_pos ⟨rfl, rfl⟩
    exact ⟨x1, x2, fun _ => hr, x4, x5, x6, x7, x8, x9, fun z => absurd (e73.symm.trans z) (by decide), x11⟩
  refine EX_I ?_ (by decide)
  by_cases z : aS b 73 s = 3
  · rw [if_pos z]
    have h2 : EX (A_drawAlarm b s) s := EX_fr AFr_drawAlarm (by decide) (by decide) (by decide) (by decide) (by decide) h1
    have e3 : aRq (aDropReq (A_drawAlarm b s) s) s = [] := if_pos rfl
    have h3 : EX (aDropReq (A_drawAlarm b s) s) s := EX_sub (AFr_rq (a := A_drawAlarm b s) (s := s) (v := [])) (by decide) (by decide) (by decide) (by decide) (by
      show (aRq (aDropReq (A_drawAlarm b s) s) s).Sublist _
      rw [e3]
      exact List.nil_sublist _) h2
    exact drop _ (EX_80 h3 (Or.inl rfl)) e3
  · rw [if_neg z]
    exact drop b h1 (h1.2.2.1 z)
