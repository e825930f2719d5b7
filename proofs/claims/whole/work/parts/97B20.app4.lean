/-! the content of an entry is laid; what comes of it -/
theorem dB_8 {τ : RS} {k y : Nat} : (dB τ k y).toInt8.toInt32 = dB τ k y := i_b8
theorem app_loop {F : Nat} {σ1 τ0 : RS} {s k p S : Nat} {l con : List (Option Int32)} {kd : Int32} {Q : RS → Prop} (hk : k < 224) (hp : p < 3584) (h0 : Wr k σ1 τ0 S l) (hS : S + l.length + con.length ≤ 14000) (hc2 : con.length ≤ 256) (hcon : bM (fun q => rB (σ1.2 63) (256 * p + q)) con 256)
    (hQ : ∀ τ, Wr k σ1 τ S (l ++ con) → WP (if xc2 .ne kd ((1 : Int32)) = true then m_append_b453 F τ (Int32.ofNat s) else (m_findCode F τ (Int32.ofNat s)).bind fun p9 => m_append_b453 F p9 (Int32.ofNat s)) Q) :
    ∀ n i (τ : RS), con.length + 1 ≤ i + n → i ≤ con.length → SLd k σ1 τ → Fr [37] [36] σ1 τ → τ.1 37 k = Int32.ofNat (S + l.length) → (∀ y, y < S + l.length → dB τ k y = dB τ0 k y) → (∀ y, y < i → dB τ k (S + l.length + y) = rB (σ1.2 63) (256 * p + y)) →
    WP (m_append_b384 F n τ (Int32.ofNat s) kd (Int32.ofNat con.length) (Int32.ofNat p) (Int32.ofNat k) (Int32.ofNat i)) Q := by
  obtain ⟨w1, w2, w3, w4, w5⟩ := h0
  intro n
  induction n with
  | zero => intro i τ h1 h2; omega
  | succ n ih =>
    intro i τ h1 h2 g1 g2 g3 g4 g5
    unfold m_append_b384
    refine WP_if (i_gei (by omega) (by omega)) (fun q => ?_) (fun q => ?_)
    · have : i = con.length := by omega
      subst this
      refine WP_ld rfl 224 (by decide +kernel) hk ?_
      refine WP_st rfl 224 (by decide +kernel) hk ?_
      rw [g3, i_ad]
      refine hQ _ ⟨SLd_I g1 (by unfold FOf; omega), Fr_w (Fr_t g2 Fr_I) (by simp) (by simp), ?_, fun y hy => ?_, fun y v hv => ?_⟩
      · rw [setI_e, List.length_append, Nat.add_assoc]
      · show dB τ k y = _
        rw [g4 y (by omega)]
        exact w4 y hy
      · show dB τ k (S + y) = v
        rcases get_app hv with ⟨q1, hx⟩ | ⟨q1, hx⟩
        · rw [g4 _ (by omega)]
          exact w5 y v hx
        · obtain ⟨hl, _⟩ := List.getElem?_eq_some_iff.mp hx
          rw [show S + y = S + l.length + (y - l.length) by omega, g5 _ hl]
          exact hcon _ v (by omega) hx
    · refine WP_ld rfl 224 (by decide +kernel) hk ?_
      rw [g3, show (256 : Int32) * Int32.ofNat p + Int32.ofNat i = Int32.ofNat (256 * p + i) from i_ma, show (14000 : Int32) * Int32.ofNat k + Int32.ofNat (S + l.length) + Int32.ofNat i = Int32.ofNat (14000 * k + (S + l.length + i)) by
        rw [show (14000 : Int32) = Int32.ofNat 14000 from rfl, i_ma, i_ad, Nat.add_assoc]]
      refine WP_eq (m_inLog_n (by omega)) ?_
      refine WP_eq (m_layDisk_n (by omega)) ?_
      rw [i_s]
      have hb : ∀ y, dB (setL τ 36 ((14000 * k + (S + l.length + i)) / 8) (rlay (τ.2 36 ((14000 * k + (S + l.length + i)) / 8)) ((14000 * k + (S + l.length + i)) % 8) (rB (τ.2 63) (256 * p + i)))) k y = if y = S + l.length + i then rB (σ1.2 63) (256 * p + i) else dB τ k y := by
        intro y
        rw [dB_lay, g2.2 63 (by decide)]
        by_cases q2 : y = S + l.length + i
        · rw [if_pos q2, if_pos q2]
          exact i_b8
        · rw [if_neg q2, if_neg q2]
      refine ih (i + 1) _ (by omega) (by omega) (SLd_L g1 (by omega)) (Fr_w (Fr_t g2 Fr_L) (by simp) (by simp)) g3 (fun y hy => ?_) (fun y hy => ?_)
      · rw [hb, if_neg (by omega)]
        exact g4 y hy
      · rw [hb]
        by_cases q2 : y = i
        · rw [if_pos (by omega), q2]
        · rw [if_neg (by omega)]
          exact g5 y (by omega)
theorem getD_mem {l : List Nat} {i : Nat} (h : i < l.length) : l.getD i 0 ∈ l := by
  rw [List.getD_eq_getElem?_getD, List.getElem?_eq_getElem h]
  exact List.getElem_mem h
/-- from what was done to the memory: the agreed store behind the append -/
theorem RM_app3 {σ σ' : RS} {a : AA} {u : AU} {s g S : Nat} {c : List Nat} {e : AE} (h : RM σ a u) (hs : s < 7) (hup : aS a 52 s = 1) (hz : u.2 s) (h1 : (aLg a s).length < 300) (h2 : (aLast a s).toInt + 1 < 1073741824) (hc : aCh a s = c ++ [g]) (hS : (aFc a s g).1 1 = Int32.ofNat S) (hS2 : S ≤ 8000) (he : wfE (aAk a) e) (he2 : (eCon (aAk a) e).length ≤ 256)
    (hF : Fr [56, 59, 60, 61, 62, 44, 37] [36] σ σ') (v56 : ∀ t, σ'.1 56 t = if t = s then aLast a s + 1 else σ.1 56 t)
    (vL : ∀ f, 59 ≤ f → f ≤ 62 → ∀ i, i ≠ lPn a s → σ'.1 f i = σ.1 f i) (v59 : σ'.1 59 (lPn a s) = e.1) (v60 : σ'.1 60 (lPn a s) = e.2.1) (v61 : σ'.1 61 (lPn a s) = e.2.2.1) (v62 : σ'.1 62 (lPn a s) = Int32.ofNat S)
    (hcon : bM (fun q => rB (σ.2 63) (256 * lPn a s + q)) (eCon (aAk a) e) 256)
    (σd : RS) (hd : ∀ t, t < 7 → RDk (aAk a) σd t (aFc a t) (aFk a t)) (hSd : SLd (2 * rFx s g) σd σ') (v44 : σ'.1 44 (rFx s g) = 1) (v37 : σ'.1 37 (2 * rFx s g) = Int32.ofNat (S + (eFrame (aAk a) e).length)) (hb0 : ∀ y, y < S → dB σ' (2 * rFx s g) y = dB σ (2 * rFx s g) y) (hb1 : ∀ y v, (eFrame (aAk a) e)[y]? = some (some v) → dB σ' (2 * rFx s g) (S + y) = v) : RM σ' (aApp3 a s g e) u := by
  have wl := RM_wl h hs
  have hw := h.2.2.2.2.2.2.2.2.2.2.2.2.2.2.2.2.2.2.2.2.2.1 s hs hz hup
  have hgm : g ∈ aCh a s := by rw [hc]; simp
  obtain ⟨n, n1, n2, n3⟩ := hw.2.2.resolve_left (fun z => by
    rw [hc] at z
    exact absurd z.1 (by simp))
  have hg := chOK_mem _ _ n3 g hgm
  have z0 := (h.2.2.2.2.2.1 s hs g hg.2.1).1
  have hwf := z0.2.2.2.2.1
  have hx : exF (aFc a s g) := hg.2.2.2.1
  obtain ⟨p1, p2⟩ := aPlus_w hS (by omega) hx hwf he he2
  obtain ⟨b1, r, b2⟩ := fBy_w (f := g) hg.1 hS (by omega) hx hwf
  have hend : ((aFc a s g).1 2).toInt + (aWhole (aFc a s g)).length = (aLast a s).toInt + 1 := by
    rw [hc] at n3
    exact chOK_end c n n3
  have hfl := eFrame_l (K := aAk a) (e := e)
  have hsz := aPlus_sz hS (by omega) he he2
  -- the file
  have hR : RFl (aAk a) σ' (2 * rFx s g) g (aPlus (aFc a s g) e) := by
    have e38 : σ'.1 38 (2 * rFx s g) = σ.1 38 (2 * rFx s g) := by rw [hF.1 38 (by decide)]
    have eby : fBy (aAk a) g (aPlus (aFc a s g) e) = (aHead ((aFc a s g).1 2) ((aFc a s g).1 3) ++ (aWhole (aFc a s g)).flatMap (eFrame (aAk a))) ++ eFrame (aAk a) e := by
      rw [fBy_4 hg.1]
      show aHead ((aFc a s g).1 2) ((aFc a s g).1 3) ++ (aWhole (aFc a s g) ++ [e]).flatMap (eFrame (aAk a)) = _
      rw [List.flatMap_append, List.append_assoc]
      congr 2
      simp
    refine ⟨e38.trans z0.1, z0.2.1, ?_, ⟨S + 25 + (eCon (aAk a) e).length, by omega, hsz, fun q => ?_, fun _ => ?_, fun i v hi hv => ?_⟩, fun x hx => ?_, fun y => by omega, fun _ y => by omega⟩
    · rw [v37, hsz, hfl, Nat.add_assoc]
    · have : (aFc a s g).1 0 = 0 := q
      rw [hg.2.2.1] at this
      exact absurd this (by decide)
    · rw [eby, List.length_append, b1]
      omega
    · rw [eby] at hv
      rcases get_app hv with ⟨q, hy⟩ | ⟨q, hy⟩
      · rw [b1] at q
        show dB σ' (2 * rFx s g) i = v
        rw [hb0 i q]
        obtain ⟨S', s1, s2, s3, s4, s5⟩ := z0.2.2.2.1
        have : S' = S := by
          rw [hS] at s2
          exact ((i_eqi (by omega) (by omega)).mp s2).symm
        subst this
        refine s5 i v q ?_
        rw [b2, List.getElem?_append_left (by omega)]
        exact hy
      · rw [b1] at q hy
        have := hb1 _ v hy
        rw [show S + (i - S) = i by omega] at this
        exact this
    · rcases List.mem_append.mp hx with q | q
      · exact hwf x (aWhole_sub x q)
      · rw [List.mem_singleton.mp q]
        exact ⟨he, he2⟩
  have hdk := RDk_put (a := a) hs hg.2.1 hSd v44 hR hd
  have eFc : ∀ t x, aFc (aApp3 a s g e) t x = if t = s ∧ x = g then aPlus (aFc a s g) e else aFc a t x := fun t x => aFc_app3
  have hsc : RSc σ' (aApp3 a s g e) := by
    refine ⟨fun f hf i hi => ?_, ?_, fun t ht => ?_⟩
    · show _ = aS (aApp3 a s g e) f i
      rw [aS_app3]
      by_cases q : f = 56
      · subst q
        rw [v56]
        by_cases q2 : i = s
        · rw [if_pos q2, if_pos ⟨rfl, q2⟩]
        · rw [if_neg q2, if_neg (fun z => q2 z.2)]
          exact h.1.1 56 hf i hi
      · rw [if_neg (fun z => q z.1), hF.1 f (fun z => by
          have : f = 59 ∨ f = 60 ∨ f = 61 ∨ f = 62 ∨ f = 44 ∨ f = 37 := by simp at z; omega
          rcases this with rfl | rfl | rfl | rfl | rfl | rfl <;> exact absurd hf (by decide))]
        exact h.1.1 f hf i hi
    · rw [hF.2 28 (by decide)]
      exact h.1.2.1
    · rw [hF.2 84 (by decide)]
      exact h.1.2.2 t ht
  have hnfree : ∀ t, t < 7 → ∀ i, i < (aLg a t).length → rLp t (aBase a t + 1 + Int32.ofNat i) ≠ lPn a s := fun t ht i hi => lPn_free (h.2.2.2.2.2.2.2.2.2.2.2.2.2.2.2.2.2.2.2.2.1 t ht) wl ht hs hi
  have hlog : ∀ t, t < 7 → RLog (aAk a) σ' t (aS (aApp3 a s g e) 55 t) (aLg (aApp3 a s g e) t) := by
    intro t ht
    rw [aS_app3, if_neg (by omega), aLg_app3]
    have old : ∀ i, i < (aLg a t).length → let x := (aLg a t).getD i aE0
        let p := rLp t (aS a 55 t + 1 + Int32.ofNat i)
        σ'.1 59 p = x.1 ∧ σ'.1 60 p = x.2.1 ∧ σ'.1 61 p = x.2.2.1 ∧ wfE (aAk a) x ∧ (eCon (aAk a) x).length ≤ 256 ∧ bM (fun q => rB (σ'.2 63) (256 * p + q)) (eCon (aAk a) x) 256 := by
      intro i hi
      have := h.2.2.2.2.1 t ht i hi
      dsimp only at this ⊢
      have hn := hnfree t ht i hi
      have hn : rLp t (aS a 55 t + 1 + Int32.ofNat i) ≠ lPn a s := hn
      rw [vL 59 (by omega) (by omega) _ hn, vL 60 (by omega) (by omega) _ hn, vL 61 (by omega) (by omega) _ hn, hF.2 63 (by decide)]
      exact this
    by_cases q : t = s
    · rw [if_pos q]
      subst q
      intro i hi
      dsimp only
      rw [getD_app]
      by_cases q2 : i < (aLg a t).length
      · rw [if_pos q2]
        exact old i q2
      · rw [List.length_append] at hi
        have : i = (aLg a t).length := by simp at hi; omega
        rw [if_neg q2, if_pos this, this]
        have ep : rLp t (aS a 55 t + 1 + Int32.ofNat (aLg a t).length) = lPn a t := by
          unfold lPn
          rw [lPn_e wl]
          rfl
        rw [ep, hF.2 63 (by decide)]
        exact ⟨v59, v60, v61, he, he2, hcon⟩
    · rw [if_neg q]
      exact old
  have hch : ∀ t, t < 7 → aS (aApp3 a s g e) 52 t = 1 → RCh σ' t (aFc (aApp3 a s g e) t) (aCh a t) := by
    intro t ht hu
    rw [aS_app3, if_neg (by omega)] at hu
    obtain ⟨y1, y2, y3⟩ := RCh_fr hF (by decide) (h.2.2.2.2.2.2.2.1 t ht hu)
    refine ⟨y1, y2, fun i hi => ?_⟩
    obtain ⟨y4, y5, y6, y7⟩ := y3 i hi
    refine ⟨y4, y5, y6, ?_⟩
    rw [y7, eFc]
    by_cases q : t = s ∧ (aCh a t).getD i 0 = g
    · rw [if_pos q, q.1, ← q.1, q.2, q.1]
      rfl
    · rw [if_neg q]
  have hat : ∀ t, t < 7 → aS (aApp3 a s g e) 52 t = 1 → RAt σ' t (aS (aApp3 a s g e) 55 t) (aLg (aApp3 a s g e) t) (aFc (aApp3 a s g e) t) (aCh a t) := by
    intro t ht hu
    rw [aS_app3, if_neg (by omega)] at hu
    rw [aS_app3, if_neg (by omega), aLg_app3]
    intro f hf k i hi hk eq
    have old : i < (aLg a t).length → k < (aWhole (aFc a t f)).length → aS a 55 t + 1 + Int32.ofNat i = (aFc a t f).1 2 + Int32.ofNat k → σ'.1 62 (rLp t (aS a 55 t + 1 + Int32.ofNat i)) = Int32.ofInt (aFrame (aFc a t f).2.1 k) := by
      intro i1 k1 q1
      have hn : rLp t (aS a 55 t + 1 + Int32.ofNat i) ≠ lPn a s := hnfree t ht i i1
      rw [vL 62 (by omega) (by omega) _ hn]
      exact h.2.2.2.2.2.2.2.2.1 t ht hu f hf k i i1 k1 q1
    rw [eFc] at hk eq ⊢
    by_cases q : t = s
    · subst q
      rw [if_pos rfl] at hi
      rw [List.length_append] at hi
      have hi : i < (aLg a t).length + 1 := by simp at hi; omega
      -- numbers of the files of the chain
      have hm := chOK_mem _ _ n3 f hf
      have en : (aS a 55 t + 1 + Int32.ofNat i).toInt = (aBase a t).toInt + 1 + i := aB_n wl (by omega)
      obtain ⟨w1, w2, w3, w4⟩ := id wl
      by_cases q2 : f = g
      · rw [if_pos ⟨rfl, q2⟩] at hk eq ⊢
        rw [p1, List.length_append] at hk
        have hk : k < (aWhole (aFc a t g)).length + 1 := by simp at hk; omega
        have eq2 : aS a 55 t + 1 + Int32.ofNat i = (aFc a t g).1 2 + Int32.ofNat k := eq
        have ek : ((aFc a t g).1 2 + Int32.ofNat k).toInt = ((aFc a t g).1 2).toInt + k := by
          have := (hm.2.2.2.2.1)
          rw [i_addI (by rw [Int32.toInt_ofNat_of_lt (by omega)]; omega) (by rw [Int32.toInt_ofNat_of_lt (by omega)]; omega), Int32.toInt_ofNat_of_lt (by omega)]
        have eqi := congrArg Int32.toInt eq2
        rw [en, ek] at eqi
        by_cases q3 : k < (aWhole (aFc a t g)).length
        · have fr : aFrame (aPlus (aFc a t g) e).2.1 k = aFrame (aFc a t g).2.1 k := by
            unfold aFrame
            show 24 + (((aWhole (aFc a t g) ++ [e]).take k).map aEsz).sum = _
            rw [List.take_append_of_le_length (by omega)]
            congr 3
            unfold aWhole at q3 ⊢
            rw [List.take_take, Nat.min_eq_left]
            rw [List.length_take] at q3
            omega
          rw [fr, q2.symm]
          rw [q2] at old
          rw [← q2] at old
          refine old (by omega) (by rw [q2]; exact q3) ?_
          rw [q2]
          exact eq2
        · have : k = (aWhole (aFc a t g)).length := by omega
          subst this
          have hil : i = (aLg a t).length := by omega
          subst hil
          have fr : aFrame (aPlus (aFc a t g) e).2.1 (aWhole (aFc a t g)).length = (S : Int) := by
            unfold aFrame
            show 24 + (((aWhole (aFc a t g) ++ [e]).take (aWhole (aFc a t g)).length).map aEsz).sum = _
            rw [List.take_append_of_le_length (by omega), List.take_length]
            have := exF_sum hx
            rw [hS, Int32.toInt_ofNat_of_lt (by omega)] at this
            omega
          rw [fr]
          have ep : rLp t (aS a 55 t + 1 + Int32.ofNat (aLg a t).length) = lPn a t := by
            unfold lPn
            rw [lPn_e wl]
            rfl
          rw [ep, v62]
          rfl
      · rw [if_neg (fun z => q2 z.2)] at hk eq ⊢
        have ek : ((aFc a t f).1 2 + Int32.ofNat k).toInt = ((aFc a t f).1 2).toInt + k := by
          have := (hm.2.2.2.2)
          rw [i_addI (by rw [Int32.toInt_ofNat_of_lt (by omega)]; omega) (by rw [Int32.toInt_ofNat_of_lt (by omega)]; omega), Int32.toInt_ofNat_of_lt (by omega)]
        have eqi := congrArg Int32.toInt eq
        rw [en, ek] at eqi
        exact old (by omega) hk eq
    · rw [if_neg q] at hi
      rw [if_neg (fun z => q z.1)] at hk eq ⊢
      exact old hi hk eq
  have hwl : ∀ t, t < 7 → WLg (aApp3 a s g e) t := fun t ht => WLg_app3 (fun t ht => h.2.2.2.2.2.2.2.2.2.2.2.2.2.2.2.2.2.2.2.2.1 t ht) ht hs h1 h2
  have hwc : ∀ t, t < 7 → u.2 t → aS (aApp3 a s g e) 52 t = 1 → WCh (aApp3 a s g e) t := by
    intro t ht hz' hu
    rw [aS_app3, if_neg (by omega)] at hu
    by_cases q : t = s
    · subst q
      exact WCh_app3 wl hw hc hS (by omega) hwf he he2 h2
    · refine WCh_c (h.2.2.2.2.2.2.2.2.2.2.2.2.2.2.2.2.2.2.2.2.2.1 t ht hz' hu) rfl ?_ rfl (fun x _ => ?_)
      · show aS (aApp3 a s g e) 56 t = _
        rw [aS_app3, if_neg (fun z => q z.2)]
        rfl
      · rw [eFc, if_neg (fun z => q z.1)]
  have hle : aLast a s ≤ aLast a s + 1 := by
    rw [Int32.le_iff_toInt_le, i_succ (by omega)]
    omega
  have hle2 : aLast a s + 1 ≤ aLast a s + 1 + 1 := by
    have e1 : (aLast a s + 1).toInt = (aLast a s).toInt + 1 := i_succ (by omega)
    have e2 : (aLast a s + 1 + 1).toInt = (aLast a s).toInt + 2 := by
      rw [i_succ (by omega), e1]
      omega
    rw [Int32.le_iff_toInt_le, e1, e2]
    omega
  have ne56 : ∀ f i, f ≠ 56 → aS (aApp3 a s g e) f i = aS a f i := fun f i q => by rw [aS_app3, if_neg (fun z => q z.1)]
  have hwm : ∀ t, t < 7 → u.2 (14 + t) → WMk (aApp3 a s g e) t := by
    intro t ht hz'
    have old := h.2.2.2.2.2.2.2.2.2.2.2.2.2.2.2.2.2.2.2.2.2.2.1 t ht hz'
    unfold WMk aBase aLast at old ⊢
    rw [ne56 55 _ (by decide), ne56 75 _ (by decide), ne56 76 _ (by decide), ne56 77 _ (by decide), aS_app3]
    by_cases q : t = s
    · subst q
      rw [if_pos ⟨rfl, rfl⟩]
      exact ⟨old.1, old.2.1, Int32.le_trans old.2.2.1 hle, Int32.le_trans old.2.2.2 hle⟩
    · rw [if_neg (fun z => q z.2)]
      exact old
  have hld : ∀ t, t < 7 → u.2 (7 + t) → aS (aApp3 a s g e) 73 t = 3 → WLd (aApp3 a s g e) t := by
    intro t ht hz' hr p hp
    rw [aS_app3, if_neg (by omega)] at hr
    have old := h.2.2.2.2.2.2.2.2.2.2.2.2.2.2.2.2.2.2.2.2.2.2.2 t ht hz' hr p hp
    unfold aLast at old ⊢
    rw [ne56 86 _ (by decide), ne56 87 _ (by decide), ne56 90 _ (by decide), ne56 88 _ (by decide), ne56 67 _ (by decide), aS_app3]
    by_cases q : t = s
    · subst q
      rw [if_pos ⟨rfl, rfl⟩]
      exact ⟨old.1, Int32.le_trans old.2.1 hle2, Int32.le_trans old.2.2.1 hle, old.2.2.2⟩
    · rw [if_neg (fun z => q z.2)]
      exact old
  have hlc : aLoc (aApp3 a s g e) := by
    have l := RM_loc h
    refine ⟨l.1, l.2.1, fun t ht f hf => ?_, l.2.2.2.1, l.2.2.2.2⟩
    have old := l.2.2.1 t ht f hf
    rw [aS_app3, if_neg (by omega), eFc]
    by_cases q : t = s ∧ f = g
    · rw [if_pos q]
      refine ⟨old.1, Int32.le_trans old.2 ?_⟩
      rw [q.1, q.2, hsz, hS, Int32.le_iff_toInt_le, Int32.toInt_ofNat_of_lt (by omega), Int32.toInt_ofNat_of_lt (by omega)]
      omega
    · rw [if_neg q]
      exact old
  have hsl : ∀ t, t < 7 → RSl σ' t (aS a 150 t) (aFc (aApp3 a s g e) t) (aFk a t) := by
    intro t ht
    have old := RSl_fr hF (by decide) (h.2.2.2.2.2.2.1 t ht)
    intro x y hx hy
    have eF : ∀ x : Nat × Bool, x.1 < 2 → (if x.2 then aFc (aApp3 a s g e) t x.1 else aFk a t x.1) = (if x.2 then aFc a t x.1 else aFk a t x.1) := by
      intro x hx
      cases x.2 with
      | false => rfl
      | true =>
        simp only [if_true]
        rw [eFc, if_neg (by omega)]
    have := old x y hx hy
    dsimp only at this ⊢
    rw [eF x hx, eF y hy]
    exact this
  exact ⟨hsc, RWay_fr hF (by decide) h.2.1, fun s hs => RWt_fr hF (by decide) (h.2.2.1 s hs), fun l hl => RLt_fr hF (by decide) (h.2.2.2.1 l hl), hlog, hdk, hsl, hch, hat, fun s hs => RMc_fr hF (by decide) (h.2.2.2.2.2.2.2.2.2.1 s hs), fun s hs => RSh_fr hF (by decide) (h.2.2.2.2.2.2.2.2.2.2.1 s hs), fun s hs => RPc_fr hF (by decide) (h.2.2.2.2.2.2.2.2.2.2.2.1 s hs), fun s hs => RRq_fr hF (by decide) (h.2.2.2.2.2.2.2.2.2.2.2.2.1 s hs), RAk_fr hF (by decide) h.2.2.2.2.2.2.2.2.2.2.2.2.2.1, fun s hs => RWn_fr hF (by decide) (h.2.2.2.2.2.2.2.2.2.2.2.2.2.2.1 s hs), RTp_fr hF (by decide) h.2.2.2.2.2.2.2.2.2.2.2.2.2.2.2.1, RRe_fr hF (by decide) h.2.2.2.2.2.2.2.2.2.2.2.2.2.2.2.2.1, fun s hs => RDn_fr hF (by decide) (h.2.2.2.2.2.2.2.2.2.2.2.2.2.2.2.2.2.1 s hs), RSum_fr hF (by decide) h.2.2.2.2.2.2.2.2.2.2.2.2.2.2.2.2.2.2.1, hlc, hwl, hwc, hwm, hld⟩
