/-! a new segment -/
theorem RM_chx {σ σ' : RS} {a : AA} {u : AU} {s : Nat} {ch : List Nat} (h : RM σ a (u.1, fun x => u.2 x ∧ x ≠ s)) (hs : s < 7) (hF : Fr [49, 50, 51] [] σ σ')
    (ho : ∀ t, t < 7 → t ≠ s → σ'.1 49 t = σ.1 49 t ∧ ∀ i, i < 12 → σ'.1 50 (12 * t + i) = σ.1 50 (12 * t + i) ∧ σ'.1 51 (12 * t + i) = σ.1 51 (12 * t + i))
    (hc : aS a 52 s = 1 → RCh σ' s (aFc a s) ch) (ha : aS a 52 s = 1 → RAt σ s (aS a 55 s) (aLg a s) (aFc a s) ch) (hw : u.2 s → aS a 52 s = 1 → WCh (aChS a s ch) s) : RM σ' (aChS a s ch) u := by
  have ech : ∀ t, aCh (aChS a s ch) t = if t = s then ch else aCh a t := fun t => rfl
  have hch : ∀ t, t < 7 → aS a 52 t = 1 → RCh σ' t (aFc a t) (aCh (aChS a s ch) t) := by
    intro t ht hu
    rw [ech]
    by_cases q : t = s
    · rw [if_pos q, q]
      rw [q] at hu
      exact hc hu
    · rw [if_neg q]
      obtain ⟨z1, z2, z3⟩ := h.2.2.2.2.2.2.2.1 t ht hu
      obtain ⟨o1, o2⟩ := ho t ht q
      refine ⟨o1.trans z1, z2, fun i hi => ?_⟩
      obtain ⟨y1, y2, y3, y4⟩ := z3 i hi
      exact ⟨y1, y2, (o2 i (by omega)).1.trans y3, (o2 i (by omega)).2.trans y4⟩
  have hat : ∀ t, t < 7 → aS a 52 t = 1 → RAt σ' t (aS a 55 t) (aLg a t) (aFc a t) (aCh (aChS a s ch) t) := by
    intro t ht hu
    refine RAt_fr hF (by decide) ?_
    rw [ech]
    by_cases q : t = s
    · rw [if_pos q, q]
      rw [q] at hu
      exact ha hu
    · rw [if_neg q]
      exact h.2.2.2.2.2.2.2.2.1 t ht hu
  have hwc : ∀ t, t < 7 → u.2 t → aS a 52 t = 1 → WCh (aChS a s ch) t := by
    intro t ht hz hu
    by_cases q : t = s
    · rw [q] at hz hu ⊢
      exact hw hz hu
    · have old := h.2.2.2.2.2.2.2.2.2.2.2.2.2.2.2.2.2.2.2.2.2.1 t ht ⟨hz, q⟩ hu
      have e : aCh (aChS a s ch) t = aCh a t := by rw [ech, if_neg q]
      unfold WCh at old ⊢
      rw [e]
      exact old
  have hwm : ∀ t, t < 7 → u.2 (14 + t) → WMk a t := fun t ht hz => h.2.2.2.2.2.2.2.2.2.2.2.2.2.2.2.2.2.2.2.2.2.2.1 t ht ⟨hz, by omega⟩
  have hld : ∀ t, t < 7 → u.2 (7 + t) → aS a 73 t = 3 → WLd a t := fun t ht hz => h.2.2.2.2.2.2.2.2.2.2.2.2.2.2.2.2.2.2.2.2.2.2.2 t ht ⟨hz, by omega⟩
  exact ⟨RSc_fr hF (by decide) h.1, RWay_fr hF (by decide) h.2.1, fun s hs => RWt_fr hF (by decide) (h.2.2.1 s hs), fun l hl => RLt_fr hF (by decide) (h.2.2.2.1 l hl), fun s hs => RLog_fr hF (by decide) (h.2.2.2.2.1 s hs), fun s hs => RDk_fr hF (by decide) (h.2.2.2.2.2.1 s hs), fun s hs => RSl_fr hF (by decide) (h.2.2.2.2.2.2.1 s hs), hch, hat, fun s hs => RMc_fr hF (by decide) (h.2.2.2.2.2.2.2.2.2.1 s hs), fun s hs => RSh_fr hF (by decide) (h.2.2.2.2.2.2.2.2.2.2.1 s hs), fun s hs => RPc_fr hF (by decide) (h.2.2.2.2.2.2.2.2.2.2.2.1 s hs), fun s hs => RRq_fr hF (by decide) (h.2.2.2.2.2.2.2.2.2.2.2.2.1 s hs), RAk_fr hF (by decide) h.2.2.2.2.2.2.2.2.2.2.2.2.2.1, fun s hs => RWn_fr hF (by decide) (h.2.2.2.2.2.2.2.2.2.2.2.2.2.2.1 s hs), RTp_fr hF (by decide) h.2.2.2.2.2.2.2.2.2.2.2.2.2.2.2.1, RRe_fr hF (by decide) h.2.2.2.2.2.2.2.2.2.2.2.2.2.2.2.2.1, fun s hs => RDn_fr hF (by decide) (h.2.2.2.2.2.2.2.2.2.2.2.2.2.2.2.2.2.1 s hs), RSum_fr hF (by decide) h.2.2.2.2.2.2.2.2.2.2.2.2.2.2.2.2.2.2.1, h.2.2.2.2.2.2.2.2.2.2.2.2.2.2.2.2.2.2.2.1, h.2.2.2.2.2.2.2.2.2.2.2.2.2.2.2.2.2.2.2.2.1, hwc, hwm, hld⟩
def aHead (n t : Int32) : List (Option Int32) := (a4 16 ++ a4 0 ++ a4 n ++ a4 t ++ a4 0 ++ a4 0).map some
theorem aHead_l {n t : Int32} : (aHead n t).length = 24 := rfl
def aSegF (a : AA) (s : Nat) : AF := aF 1 24 (aLast a s + 1) (aTermAt a s (aLast a s)) 0 [] ([], [])
def aSeg1 (a : AA) (s f : Nat) : AA := aChS (aI (aPut a s f (aSegF a s)) 43 (16 * s + f) 0) s (aCh a s ++ [f])
theorem chOK_app {fc : Nat → AF} {f : Nat} {e e2 : Int} : ∀ (c : List Nat) (n : Int), chOK fc e n c → chOK fc e2 e [f] → chOK fc e2 n (c ++ [f]) := by
  intro c
  induction c with
  | nil =>
    intro n h h2
    have : n = e := h
    rw [this]
    exact h2
  | cons g r ih =>
    intro n h h2
    obtain ⟨h1, h2', h3, h4, h5, h6⟩ := h
    exact ⟨h1, h2', h3, h4, h5, ih _ h6 h2⟩
theorem chOK_mem {fc : Nat → AF} {e : Int} : ∀ (c : List Nat) (n : Int), chOK fc e n c → ∀ g ∈ c, 4 ≤ g ∧ g < 16 ∧ (fc g).1 0 = 1 ∧ ((fc g).1 1).toInt = aFrame (fc g).2.1 (aWhole (fc g)).length ∧ n ≤ ((fc g).1 2).toInt ∧ ((fc g).1 2).toInt + (aWhole (fc g)).length ≤ e := by
  intro c
  induction c with
  | nil => exact fun _ _ g hg => absurd hg List.not_mem_nil
  | cons f r ih =>
    intro n h g hg
    obtain ⟨h1, h2, h3, h4, h5, h6⟩ := h
    have hne : ∀ (c : List Nat) (n : Int), chOK fc e n c → n ≤ e := by
      intro c
      induction c with
      | nil => intro n h; exact Int.le_of_eq h
      | cons f r ih => intro n h; have := ih _ h.2.2.2.2.2; omega
    rcases List.mem_cons.mp hg with z | z
    · rw [z]
      have := hne r _ h6
      exact ⟨h1, h2, h3, h5, by omega, by omega⟩
    · obtain ⟨y1, y2, y3, y4, y5, y6⟩ := ih _ h6 g z
      exact ⟨y1, y2, y3, y4, by omega, y6⟩
theorem chOK_f {fc fc' : Nat → AF} {e : Int} : ∀ (c : List Nat) (n : Int), (∀ g ∈ c, fc' g = fc g) → chOK fc e n c → chOK fc' e n c := by
  intro c
  induction c with
  | nil => exact fun n _ h => h
  | cons f r ih =>
    intro n hg h
    obtain ⟨h1, h2, h3, h4, h5, h6⟩ := h
    unfold chOK
    rw [hg f List.mem_cons_self]
    exact ⟨h1, h2, h3, h4, h5, ih _ (fun g hg' => hg g (List.mem_cons_of_mem _ hg')) h6⟩
theorem aFrame_0 {es : List AE} : aFrame es 0 = 24 := by
  unfold aFrame
  rfl
theorem WCh_seg {a : AA} {s f : Nat} (w : WLg a s) (h : WCh a s) (h1 : 4 ≤ f) (h2 : f < 16) (h3 : (aFc a s f).1 0 = 0) (h4 : aLast a s = aBase a s ∨ aHas a s (aLast a s) = true) : WCh (aSeg1 a s f) s := by
  have ec : aCh (aSeg1 a s f) s = aCh a s ++ [f] := if_pos rfl
  have ef : ∀ g, aFc (aSeg1 a s f) s g = if g = f then aSegF a s else aFc a s g := by
    intro g
    show aFc (aPut a s f (aSegF a s)) s g = _
    rw [aFc_put]
    by_cases q : g = f
    · rw [if_pos ⟨rfl, q⟩, if_pos q]
    · rw [if_neg (fun z => q z.2), if_neg q]
  obtain ⟨w1, w2, w3, w4⟩ := w
  obtain ⟨c1, c2, c3⟩ := h
  have hm : ∀ g ∈ aCh a s, (aFc a s g).1 0 = 1 := by
    intro g hg
    rcases c3 with z | ⟨n, n1, n2, n3⟩
    · rw [z.1] at hg
      exact absurd hg List.not_mem_nil
    · exact (chOK_mem _ _ n3 g hg).2.2.1
  have hf : f ∉ aCh a s := fun z => by
    have := hm f z
    rw [h3] at this
    exact absurd this (by decide)
  have hlast : chOK (aFc (aSeg1 a s f) s) ((aLast a s).toInt + 1) ((aLast a s).toInt + 1) [f] := by
    unfold chOK
    rw [ef, if_pos rfl]
    have hl : (aWhole (aSegF a s)).length = 0 := rfl
    refine ⟨h1, h2, rfl, ?_, ?_, ?_⟩
    · show (aLast a s + 1).toInt = _
      rw [i_succ (by omega)]
    · rw [hl]
      show (24 : Int32).toInt = aFrame _ 0
      rw [aFrame_0]
      decide
    · rw [hl]
      show (_ : Int) = _
      omega
  refine ⟨?_, fun g g1 g2 g3 => ?_, Or.inr ?_⟩
  · rw [ec]
    exact List.nodup_append.mpr ⟨c1, by simp, fun x hx y hy => by
      rw [List.mem_singleton.mp hy]
      exact fun z => hf (z ▸ hx)⟩
  · rw [ec]
    by_cases q : g = f
    · rw [q]
      simp
    · rw [ef, if_neg q] at g3
      exact List.mem_append_left _ (c2 g g1 g2 g3)
  · rw [ec]
    show ∃ n : Int, 1 ≤ n ∧ n ≤ (aBase a s).toInt + 1 ∧ chOK _ ((aLast a s).toInt + 1) n _
    rcases c3 with z | ⟨n, n1, n2, n3⟩
    · rw [z.1]
      refine ⟨(aLast a s).toInt + 1, by omega, by rw [z.2]; omega, hlast⟩
    · refine ⟨n, n1, n2, chOK_app _ _ (chOK_f _ _ (fun g hg => ?_) n3) hlast⟩
      rw [ef, if_neg (fun (z : g = f) => hf (z ▸ hg))]
theorem aWhole_seg {a : AA} {s : Nat} : aWhole (aSegF a s) = [] := rfl
theorem M_seg1 {F : Nat} {σ : RS} {a : AA} {u : AU} {s f : Nat} {t kd n : Int32} {Q : RS → Prop} (h : RM σ a u) (hs : s < 7) (hup : aS a 52 s = 1) (hz : u.2 s) (hl : (aCh a s).length < 12) (h1 : 4 ≤ f) (h2 : f < 16) (h3 : (aFc a s f).1 0 = 0) (h4 : ∀ g, 4 ≤ g → g < f → ¬ (aFc a s g).1 0 = 0)
    (hQ : ∀ τ, RM τ (aSeg1 a s f) u → SLg (lPn a s) σ τ ∨ True → (∀ x, τ.2 63 x = σ.2 63 x) → WP (m_append_b228 F τ (Int32.ofNat s) t kd n) Q) :
    ∀ m g, 17 ≤ g + m → 4 ≤ g → g ≤ f → WP (m_append_b79 F m σ (Int32.ofNat s) t kd n (aLastTerm a s) (Int32.ofNat (aCh a s).length) (Int32.ofNat g)) Q := by
  intro m
  induction m with
  | zero => intro g q1 q2 q3; omega
  | succ m ih =>
    intro g q1 q2 q3
    unfold m_append_b79
    refine WP_eq m_fileOf_n ?_
    have z0 := (h.2.2.2.2.2.1 s hs g (by omega)).1
    refine WP_ld rfl 224 (by decide +kernel) (by omega) ?_
    rw [show σ.1 38 (2 * (16 * s + g)) = _ from z0.1]
    refine WP_if c0_eq (fun q => ?_) (fun q => ?_)
    · have hgf : g = f := by
        by_cases q4 : g < f
        · exact absurd q (h4 g q2 q4)
        · omega
      subst hgf
      refine WP_eq m_fileOf_n ?_
      rw [if_neg (by decide), i_half (by omega)]
      refine WP_st rfl 112 (by decide +kernel) (by omega) ?_
      refine WP_st rfl 224 (by decide +kernel) (by omega) ?_
      refine WP_st rfl 224 (by decide +kernel) (by omega) ?_
      have hk : 2 * (16 * s + g) < 224 := by omega
      have w0 : Wr (2 * (16 * s + g)) (setI (setI (setI σ 44 (16 * s + g) (1 &&& 1)) 38 (2 * (16 * s + g)) (1 &&& 1)) 37 (2 * (16 * s + g)) 0) (setI (setI (setI σ 44 (16 * s + g) (1 &&& 1)) 38 (2 * (16 * s + g)) (1 &&& 1)) 37 (2 * (16 * s + g)) 0) 0 [] := Wr_0 setI_e
      have sS : SLd (2 * rFx s g) σ (setI (setI (setI σ 44 (16 * s + g) (1 &&& 1)) 38 (2 * (16 * s + g)) (1 &&& 1)) 37 (2 * (16 * s + g)) 0) := by
        refine SLd_I (SLd_I (SLd_I SLd_refl ?_) ?_) ?_ <;> (unfold FOf rFx; omega)
      have v44 : (setI (setI (setI σ 44 (16 * s + g) (1 &&& 1)) 38 (2 * (16 * s + g)) (1 &&& 1)) 37 (2 * (16 * s + g)) 0).1 44 (rFx s g) = 1 := by simp [setI, rFx]
      have v38 : (setI (setI (setI σ 44 (16 * s + g) (1 &&& 1)) 38 (2 * (16 * s + g)) (1 &&& 1)) 37 (2 * (16 * s + g)) 0).1 38 (2 * rFx s g) = 1 := by simp [setI, rFx]
      have v43 : (setI (setI (setI σ 44 (16 * s + g) (1 &&& 1)) 38 (2 * (16 * s + g)) (1 &&& 1)) 37 (2 * (16 * s + g)) 0).1 43 (rFx s g) = σ.1 43 (rFx s g) := by simp [setI]
      have v63 : (setI (setI (setI σ 44 (16 * s + g) (1 &&& 1)) 38 (2 * (16 * s + g)) (1 &&& 1)) 37 (2 * (16 * s + g)) 0).2 = σ.2 := rfl
      have v56 : ∀ x, (setI (setI (setI σ 44 (16 * s + g) (1 &&& 1)) 38 (2 * (16 * s + g)) (1 &&& 1)) 37 (2 * (16 * s + g)) 0).1 56 x = σ.1 56 x := fun x => rfl
      generalize setI (setI (setI σ 44 (16 * s + g) (1 &&& 1)) 38 (2 * (16 * s + g)) (1 &&& 1)) 37 (2 * (16 * s + g)) 0 = σ1 at w0 sS v44 v38 v43 v63 v56
      refine WP_call (Wr_lay hk w0 (by simp)) (fun τ1 w1 => ?_)
      refine WP_call (Wr_lay hk w1 (by simp [a4])) (fun τ2 w2 => ?_)
      refine WP_ld rfl 7 (by decide +kernel) hs ?_
      rw [show τ2.1 56 s = aLast a s by rw [w2.2.1.1 56 (by decide), v56]; exact RM_7 h (by decide) hs]
      refine WP_call (Wr_lay hk w2 (by simp [a4])) (fun τ3 w3 => ?_)
      refine WP_call (Wr_lay hk w3 (by simp [a4])) (fun τ4 w4 => ?_)
      refine WP_call (Wr_lay hk w4 (by simp [a4])) (fun τ5 w5 => ?_)
      refine WP_call (Wr_lay hk w5 (by simp [a4])) (fun τ6 w6 => ?_)
      have w6 : Wr (2 * (16 * s + g)) σ1 τ6 0 (aHead (aLast a s + 1) (aLastTerm a s)) := w6
      obtain ⟨x1, x2, x3, x4, x5⟩ := w6
      have hoff := RM_off h s
      have hlow : (aS a 43 (16 * s + g)) = 0 := by
        obtain ⟨l1, l2⟩ := (RM_loc h).2.2.1 s hs g (by omega)
        obtain ⟨S, s1, s2, s3, _⟩ := z0.2.2.2.1
        rw [s2, s3 q] at l2
        rw [Int32.le_iff_toInt_le] at l1 l2
        rw [← Int32.toInt_inj]
        have : (Int32.ofNat 0).toInt = 0 := by decide
        rw [this] at l2
        rw [i_0] at l1 ⊢
        omega
      have hSd : SLd (2 * rFx s g) σ τ6 := SLd_t sS x1
      have hR : RFl (aAk a) τ6 (2 * rFx s g) g (aSegF a s) := by
        refine ⟨?_, Or.inr rfl, x3, ⟨24, by omega, rfl, fun y => absurd (show (1 : Int32) = 0 from y) (by decide), fun _ => ?_, fun i v hi hv => ?_⟩, fun e he => absurd he List.not_mem_nil, fun y => by omega, fun _ y => by omega⟩
        · rw [x2.1 38 (by decide)]
          exact v38
        · unfold fBy
          rw [if_neg (by omega), if_neg (by omega)]
          exact Nat.le_refl _
        · unfold fBy at hv
          rw [if_neg (by omega), if_neg (by omega)] at hv
          have := x5 i v (by
            rw [List.getElem?_append_left (by show i < 24; exact hi)] at hv
            exact hv)
          rw [Nat.zero_add] at this
          exact this
      have hcn : aS a 52 s = 1 → g ∉ aCh a s := by
        intro hu y
        have hw := h.2.2.2.2.2.2.2.2.2.2.2.2.2.2.2.2.2.2.2.2.2.1 s hs hz hu
        rcases hw.2.2 with z | ⟨n', n1, n2, n3⟩
        · rw [z.1] at y
          exact absurd y List.not_mem_nil
        · have := (chOK_mem _ _ n3 g y).2.2.1
          rw [q] at this
          exact absurd this (by decide)
      have hp := RM_put (v := 0) (F := aSegF a s) hoff hs (by omega) hSd (by rw [x2.1 44 (by decide)]; exact v44) hR (fun y => by omega) (fun hu y => absurd y (hcn hu)) (fun hu y => absurd y (hcn hu)) (by rw [x2.1 43 (by decide), v43]; exact (RM_43 h (rfx_lt hs (by omega))).trans hlow) ⟨Int32.le_refl _, by show (0 : Int32) ≤ 24; decide⟩ (fun y => absurd rfl y.2)
      have hL : (aCh a s).length < 12 := hl
      refine WP_st (n := 12 * s + (aCh a s).length) i_ma 84 (by decide +kernel) (by omega) ?_
      refine WP_ld rfl 7 (by decide +kernel) hs ?_
      refine WP_st (n := 12 * s + (aCh a s).length) i_ma 84 (by decide +kernel) (by omega) ?_
      refine WP_ld rfl 7 (by decide +kernel) hs ?_
      refine WP_st rfl 7 (by decide +kernel) hs ?_
      have hc0 := hp.2.2.2.2.2.2.2.1 s hs hup
      have e49 : (setI (setI τ6 50 (12 * s + (aCh a s).length) (Int32.ofNat g)) 51 (12 * s + (aCh a s).length) ((setI τ6 50 (12 * s + (aCh a s).length) (Int32.ofNat g)).1 56 s + 1)).1 49 s = Int32.ofNat (aCh a s).length := hc0.1
      have e56 : (setI τ6 50 (12 * s + (aCh a s).length) (Int32.ofNat g)).1 56 s = aLast a s := ((RM_7 (f := 56) hp (by decide) hs).trans rfl)
      rw [e49, e56, i_s]
      have hFr : Fr [49, 50, 51] [] τ6 (setI (setI (setI τ6 50 (12 * s + (aCh a s).length) (Int32.ofNat g)) 51 (12 * s + (aCh a s).length) (aLast a s + 1)) 49 s (Int32.ofNat ((aCh a s).length + 1))) := Fr_w (Fr_t (Fr_t Fr_I Fr_I) Fr_I) (by simp) (by simp)
      refine hQ _ ?_ (Or.inr trivial) (fun x => ?_)
      · refine RM_chx (a := aI (aPut a s g (aSegF a s)) 43 (rFx s g) 0) (u := u) (ch := aCh a s ++ [g]) hp hs hFr (fun t ht htn => ⟨?_, fun i hi => ⟨?_, ?_⟩⟩) (fun hu => ?_) (fun hu => ?_) (fun _ hu => WCh_seg (RM_wl h hs) (h.2.2.2.2.2.2.2.2.2.2.2.2.2.2.2.2.2.2.2.2.2.1 s hs hz hup) q2 h2 q (last_ok (RM_wl h hs)))
        · rw [setI_i (by omega), setI_f (by decide), setI_f (by decide)]
        · rw [setI_f (by decide), setI_f (by decide), setI_i (by omega)]
        · rw [setI_f (by decide), setI_i (by omega), setI_f (by decide)]
        · have efc : ∀ x, aFc (aI (aPut a s g (aSegF a s)) 43 (rFx s g) 0) s x = if x = g then aSegF a s else aFc a s x := by
            intro x
            show aFc (aPut a s g (aSegF a s)) s x = _
            rw [aFc_put]
            by_cases y : x = g
            · rw [if_pos ⟨rfl, y⟩, if_pos y]
            · rw [if_neg (fun z => y z.2), if_neg y]
          refine ⟨?_, by rw [List.length_append]; simp; omega, fun i hi => ?_⟩
          · rw [setI_e, List.length_append]
            rfl
          · rw [List.length_append] at hi
            rw [getD_app]
            by_cases y : i < (aCh a s).length
            · rw [if_pos y]
              obtain ⟨y1, y2, y3, y4⟩ := hc0.2.2 i y
              refine ⟨y1, y2, ?_, ?_⟩
              · rw [setI_f (by decide), setI_f (by decide), setI_i (by omega)]
                exact y3
              · rw [setI_f (by decide), setI_i (by omega), setI_f (by decide)]
                exact y4
            · have : i = (aCh a s).length := by simp at hi; omega
              rw [if_neg y, if_pos this, this]
              refine ⟨q2, h2, ?_, ?_⟩
              · rw [setI_f (by decide), setI_f (by decide), setI_e]
              · rw [setI_f (by decide), setI_e, efc, if_pos rfl]
                rfl
        · intro x hx k i hi hk e
          rcases List.mem_append.mp hx with y | y
          · exact hp.2.2.2.2.2.2.2.2.1 s hs hu x y k i hi hk e
          · have : x = g := List.mem_singleton.mp y
            rw [this] at hk
            have : aFc (aI (aPut a s g (aSegF a s)) 43 (rFx s g) 0) s g = aSegF a s := by
              show aFc (aPut a s g (aSegF a s)) s g = _
              rw [aFc_put, if_pos ⟨rfl, rfl⟩]
            rw [this] at hk
            exact absurd hk (Nat.not_lt_zero _)
      · show τ6.2 63 x = σ.2 63 x
        rw [x2.2 63 (by decide), v63]
    · rw [i_s]
      refine ih (g + 1) (by omega) (by omega) ?_
      by_cases y : g = f
      · rw [y] at q
        exact absurd h3 q
      · omega
