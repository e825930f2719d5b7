/-! compact -/
theorem aI_same {a : AA} {f i : Nat} {v : Int32} (h : aS a f i = v) : aI a f i v = a := by
  refine Prod.ext (Prod.ext ?_ rfl) rfl
  funext x y
  show (if x = f ∧ y = i then v else a.1.1 x y) = a.1.1 x y
  by_cases q : x = f ∧ y = i
  · rw [if_pos q, q.1, q.2]
    exact h.symm
  · rw [if_neg q]
theorem RM_on7 {σ : RS} {a : AA} {u : AU} {s : Nat} (h : RM σ a (u.1, fun x => u.2 x ∧ x ≠ 7 + s)) (hs : s < 7) (hw : u.2 (7 + s) → aS a 73 s = 3 → WLd a s) : RM σ a u := by
  obtain ⟨h0, h1, h2, h3, h4, h5, h6, h7, h8, h9, h10, h11, h12, h13, h14, h15, h16, h17, h18, h19, h20, h21, h22, h23⟩ := h
  refine ⟨h0, h1, h2, h3, h4, h5, h6, h7, h8, h9, h10, h11, h12, h13, h14, h15, h16, h17, h18, h19, h20, fun t ht z hu => h21 t ht ⟨z, by omega⟩ hu, fun t ht z => h22 t ht ⟨z, by omega⟩, fun t ht z hr => ?_⟩
  by_cases q : t = s
  · rw [q] at z hr ⊢
    exact hw z hr
  · exact h23 t ht ⟨z, by omega⟩ hr
theorem aHas_k {a : AA} {s : Nat} {n : Int32} (w : WLg a s) (h : aHas a s n = true) : ∃ k, 1 ≤ k ∧ k ≤ (aLg a s).length ∧ n = aBase a s + Int32.ofNat k ∧ (n - aBase a s).toNatClampNeg = k ∧ n.toInt = (aBase a s).toInt + k := by
  obtain ⟨i, hi, e1, e2, e3⟩ := aHas_i w h
  refine ⟨i + 1, by omega, by omega, ?_, ?_, by omega⟩
  · rw [e1, Int32.add_assoc, Int32.add_comm 1, i_s]
  · obtain ⟨w1, w2, w3, w4⟩ := w
    unfold Int32.toNatClampNeg
    rw [i_subI (by omega) (by omega)]
    omega
theorem RM_b55 {σ : RS} {a : AA} {u : AU} {s k : Nat} {n : Int32} (h : RM σ a u) (hs : s < 7) (hk1 : 1 ≤ k) (hk2 : k ≤ (aLg a s).length) (hn : n = aBase a s + Int32.ofNat k) (hn2 : n.toInt = (aBase a s).toInt + k) (hm : u.2 (14 + s) → n ≤ aS a 76 s) : RM (setI σ 55 s n) (aI (aLgS a s ((aLg a s).drop k)) 55 s n) u := by
  have hF : Fr [55] [] σ (setI σ 55 s n) := Fr_I
  have wl := RM_wl h hs
  have e55 : ∀ t, aS (aI (aLgS a s ((aLg a s).drop k)) 55 s n) 55 t = if t = s then n else aS a 55 t := by
    intro t
    show (if 55 = 55 ∧ t = s then n else aS a 55 t) = _
    by_cases q : t = s
    · rw [if_pos ⟨rfl, q⟩, if_pos q]
    · rw [if_neg (fun z => q z.2), if_neg q]
  have elg : ∀ t, aLg (aI (aLgS a s ((aLg a s).drop k)) 55 s n) t = if t = s then (aLg a s).drop k else aLg a t := fun t => rfl
  have enum : ∀ i : Nat, n + 1 + Int32.ofNat i = aS a 55 s + 1 + Int32.ofNat (i + k) := by
    intro i
    rw [hn, Int32.ofNat_add]
    show aS a 55 s + Int32.ofNat k + 1 + Int32.ofNat i = aS a 55 s + 1 + (Int32.ofNat i + Int32.ofNat k)
    ac_rfl
  have eget : ∀ i, ((aLg a s).drop k).getD i aE0 = (aLg a s).getD (i + k) aE0 := fun i => by
    rw [List.getD_eq_getElem?_getD, List.getElem?_drop, List.getD_eq_getElem?_getD, Nat.add_comm]
  have hsc : RSc (setI σ 55 s n) (aI (aLgS a s ((aLg a s).drop k)) 55 s n) := RSc_I (a := aLgS a s ((aLg a s).drop k)) h.1
  have hlog : ∀ t, t < 7 → RLog (aAk a) (setI σ 55 s n) t (aS (aI (aLgS a s ((aLg a s).drop k)) 55 s n) 55 t) (aLg (aI (aLgS a s ((aLg a s).drop k)) 55 s n) t) := by
    intro t ht
    refine RLog_fr hF (by decide) ?_
    rw [e55, elg]
    by_cases q : t = s
    · rw [if_pos q, if_pos q, q]
      intro i hi
      rw [List.length_drop] at hi
      have := h.2.2.2.2.1 s hs (i + k) (by omega)
      dsimp only at this ⊢
      rw [eget, enum]
      exact this
    · rw [if_neg q, if_neg q]
      exact h.2.2.2.2.1 t ht
  have hat : ∀ t, t < 7 → aS a 52 t = 1 → RAt (setI σ 55 s n) t (aS (aI (aLgS a s ((aLg a s).drop k)) 55 s n) 55 t) (aLg (aI (aLgS a s ((aLg a s).drop k)) 55 s n) t) (aFc a t) (aCh a t) := by
    intro t ht hu
    refine RAt_fr hF (by decide) ?_
    rw [e55, elg]
    by_cases q : t = s
    · rw [if_pos q, if_pos q, q]
      rw [q] at hu
      intro f hf x i hi hx e
      rw [List.length_drop] at hi
      rw [enum] at e ⊢
      exact h.2.2.2.2.2.2.2.2.1 s hs hu f hf x (i + k) (by omega) hx e
    · rw [if_neg q, if_neg q]
      exact h.2.2.2.2.2.2.2.2.1 t ht hu
  have hwl : ∀ t, t < 7 → WLg (aI (aLgS a s ((aLg a s).drop k)) 55 s n) t := by
    intro t ht
    have old := h.2.2.2.2.2.2.2.2.2.2.2.2.2.2.2.2.2.2.2.2.1 t ht
    unfold WLg aBase at old ⊢
    rw [e55, elg]
    by_cases q : t = s
    · rw [if_pos q, if_pos q, q, List.length_drop]
      rw [q] at old
      obtain ⟨w1, w2, w3, w4⟩ := old
      have hn2' : n.toInt = (aS a 55 s).toInt + k := hn2
      refine ⟨by omega, ?_, by omega, w4⟩
      show (aLast a s).toInt = _
      omega
    · rw [if_neg q, if_neg q]
      exact old
  have hwc : ∀ t, t < 7 → u.2 t → aS a 52 t = 1 → WCh (aI (aLgS a s ((aLg a s).drop k)) 55 s n) t := by
    intro t ht hz hu
    obtain ⟨c1, c2, c3⟩ := h.2.2.2.2.2.2.2.2.2.2.2.2.2.2.2.2.2.2.2.2.2.1 t ht hz hu
    refine ⟨c1, c2, ?_⟩
    show (aCh a t = [] ∧ aLast a t = aS (aI (aLgS a s ((aLg a s).drop k)) 55 s n) 55 t) ∨ ∃ m : Int, 1 ≤ m ∧ m ≤ (aS (aI (aLgS a s ((aLg a s).drop k)) 55 s n) 55 t).toInt + 1 ∧ chOK (aFc a t) ((aLast a t).toInt + 1) m (aCh a t)
    rw [e55]
    by_cases q : t = s
    · rw [if_pos q]
      rw [q] at c3 ⊢
      right
      obtain ⟨w1, w2, w3, w4⟩ := wl
      rcases c3 with z | ⟨m, m1, m2, m3⟩
      · have := congrArg Int32.toInt z.2
        omega
      · exact ⟨m, m1, by omega, m3⟩
    · rw [if_neg q]
      exact c3
  have hwm : ∀ t, t < 7 → u.2 (14 + t) → WMk (aI (aLgS a s ((aLg a s).drop k)) 55 s n) t := by
    intro t ht hz
    obtain ⟨m1, m2⟩ := h.2.2.2.2.2.2.2.2.2.2.2.2.2.2.2.2.2.2.2.2.2.2.1 t ht hz
    refine ⟨?_, m2⟩
    show aS (aI (aLgS a s ((aLg a s).drop k)) 55 s n) 55 t ≤ aS a 76 t
    rw [e55]
    by_cases q : t = s
    · rw [if_pos q]
      rw [q] at hz ⊢
      exact hm hz
    · rw [if_neg q]
      exact m1
  exact ⟨hsc, RWay_fr hF (by decide) h.2.1, fun s hs => RWt_fr hF (by decide) (h.2.2.1 s hs), fun l hl => RLt_fr hF (by decide) (h.2.2.2.1 l hl), hlog, fun s hs => RDk_fr hF (by decide) (h.2.2.2.2.2.1 s hs), fun s hs => RSl_fr hF (by decide) (h.2.2.2.2.2.2.1 s hs), fun s hs hu => RCh_fr hF (by decide) (h.2.2.2.2.2.2.2.1 s hs hu), hat, fun s hs => RMc_fr hF (by decide) (h.2.2.2.2.2.2.2.2.2.1 s hs), fun s hs => RSh_fr hF (by decide) (h.2.2.2.2.2.2.2.2.2.2.1 s hs), fun s hs => RPc_fr hF (by decide) (h.2.2.2.2.2.2.2.2.2.2.2.1 s hs), fun s hs => RRq_fr hF (by decide) (h.2.2.2.2.2.2.2.2.2.2.2.2.1 s hs), RAk_fr hF (by decide) h.2.2.2.2.2.2.2.2.2.2.2.2.2.1, fun s hs => RWn_fr hF (by decide) (h.2.2.2.2.2.2.2.2.2.2.2.2.2.2.1 s hs), RTp_fr hF (by decide) h.2.2.2.2.2.2.2.2.2.2.2.2.2.2.2.1, RRe_fr hF (by decide) h.2.2.2.2.2.2.2.2.2.2.2.2.2.2.2.2.1, fun s hs => RDn_fr hF (by decide) (h.2.2.2.2.2.2.2.2.2.2.2.2.2.2.2.2.2.1 s hs), RSum_fr hF (by decide) h.2.2.2.2.2.2.2.2.2.2.2.2.2.2.2.2.2.2.1, h.2.2.2.2.2.2.2.2.2.2.2.2.2.2.2.2.2.2.2.1, hwl, hwc, hwm, h.2.2.2.2.2.2.2.2.2.2.2.2.2.2.2.2.2.2.2.2.2.2.2⟩
theorem aSize_e {M : AM} : Int32.ofNat (aSize M) = Int32.ofNat (aEnc M).length := by
  congr 1
  rw [aEnc_e, List.length_append, List.length_append, List.length_append]
  have h1 : ∀ L : List AN, (L.flatMap sEnc).length = (L.map (fun x => 18 + x.2.2.2.2.length)).sum := by
    intro L
    induction L with
    | nil => rfl
    | cons x r ih =>
      rw [List.flatMap_cons, List.length_append, sEnc_l, ih, List.map_cons, List.sum_cons]
  have h2 : ∀ L : List (List Int32 × List Int32), (L.flatMap kEnc).length = (L.map (fun e => 3 + e.1.length + e.2.length)).sum := by
    intro L
    induction L with
    | nil => rfl
    | cons x r ih =>
      rw [List.flatMap_cons, List.length_append, kEnc_l, ih, List.map_cons, List.sum_cons]
  rw [h1, h2]
  unfold aSize
  have e4 : ∀ v : Int32, (a4 v).length = 4 := fun _ => rfl
  rw [e4, e4]
  omega
theorem RM_pack {σ τ : RS} {a : AA} {u : AU} {s : Nat} {M : AM} (h : RM σ a (u.1, fun x => u.2 x ∧ x ≠ 7 + s)) (hs : s < 7) (w : wfM M) (hP : Pk s σ τ (aEnc M)) : RM (setI τ 67 s (Int32.ofNat (aEnc M).length)) (aShS (aI a 67 s (Int32.ofNat (aEnc M).length)) s M) (u.1, fun x => u.2 x ∧ x ≠ 7 + s) := by
  obtain ⟨p1, p2, p3, p4, p5, p6⟩ := hP
  have hF1 : Fr [66, 146] [] σ τ := ⟨fun f hf => p1 f (fun z => hf (by rw [z]; simp)) (fun z => hf (by rw [z]; simp)), fun f _ => by rw [p2]⟩
  have hF : Fr [66, 146, 67] [] σ (setI τ 67 s (Int32.ofNat (aEnc M).length)) := Fr_w (Fr_t hF1 Fr_I) (by simp) (by simp)
  have hsc : RSc (setI τ 67 s (Int32.ofNat (aEnc M).length)) (aShS (aI a 67 s (Int32.ofNat (aEnc M).length)) s M) := RSc_I (a := a) (RSc_fr hF1 (by decide) h.1)
  have e67 : ∀ t, aS (aShS (aI a 67 s (Int32.ofNat (aEnc M).length)) s M) 67 t = if t = s then Int32.ofNat (aEnc M).length else aS a 67 t := by
    intro t
    show (if 67 = 67 ∧ t = s then _ else _) = _
    by_cases q : t = s
    · rw [if_pos ⟨rfl, q⟩, if_pos q]
    · rw [if_neg (fun z => q z.2), if_neg q]
      rfl
  have hsh : ∀ t, t < 7 → RSh (setI τ 67 s (Int32.ofNat (aEnc M).length)) t (aS (aShS (aI a 67 s (Int32.ofNat (aEnc M).length)) s M) 67 t) (aSh (aShS (aI a 67 s (Int32.ofNat (aEnc M).length)) s M) t) := by
    intro t ht
    rw [e67, show aSh (aShS (aI a 67 s (Int32.ofNat (aEnc M).length)) s M) t = if t = s then M else aSh a t from rfl]
    by_cases q : t = s
    · rw [if_pos q, if_pos q]
      refine ⟨w, Or.inr ⟨rfl, (aEnc_len w).1, fun i hi => ?_⟩⟩
      rw [setI_f (by decide), q]
      exact p6 i hi
    · rw [if_neg q, if_neg q]
      obtain ⟨z1, z2⟩ := h.2.2.2.2.2.2.2.2.2.2.1 t ht
      refine ⟨z1, z2.imp id ?_⟩
      rintro ⟨y1, y2, y3⟩
      refine ⟨y1, y2, fun i hi => ?_⟩
      rw [setI_f (by decide), p3 _ (by omega)]
      exact y3 i hi
  have hld : ∀ t, t < 7 → (u.2 (7 + t) ∧ 7 + t ≠ 7 + s) → aS a 73 t = 3 → WLd (aShS (aI a 67 s (Int32.ofNat (aEnc M).length)) s M) t := by
    intro t ht hz hr
    have old := h.2.2.2.2.2.2.2.2.2.2.2.2.2.2.2.2.2.2.2.2.2.2.2 t ht hz hr
    intro p hp
    have := old p hp
    rw [e67, if_neg (by omega)]
    exact this
  exact ⟨hsc, RWay_fr hF (by decide) h.2.1, fun s hs => RWt_fr hF (by decide) (h.2.2.1 s hs), fun l hl => RLt_fr hF (by decide) (h.2.2.2.1 l hl), fun s hs => RLog_fr hF (by decide) (h.2.2.2.2.1 s hs), fun s hs => RDk_fr hF (by decide) (h.2.2.2.2.2.1 s hs), fun s hs => RSl_fr hF (by decide) (h.2.2.2.2.2.2.1 s hs), fun s hs hu => RCh_fr hF (by decide) (h.2.2.2.2.2.2.2.1 s hs hu), fun s hs hu => RAt_fr hF (by decide) (h.2.2.2.2.2.2.2.2.1 s hs hu), fun s hs => RMc_fr hF (by decide) (h.2.2.2.2.2.2.2.2.2.1 s hs), hsh, fun s hs => RPc_fr hF (by decide) (h.2.2.2.2.2.2.2.2.2.2.2.1 s hs), fun s hs => RRq_fr hF (by decide) (h.2.2.2.2.2.2.2.2.2.2.2.2.1 s hs), RAk_fr hF (by decide) h.2.2.2.2.2.2.2.2.2.2.2.2.2.1, fun s hs => RWn_fr hF (by decide) (h.2.2.2.2.2.2.2.2.2.2.2.2.2.2.1 s hs), RTp_fr hF (by decide) h.2.2.2.2.2.2.2.2.2.2.2.2.2.2.2.1, RRe_fr hF (by decide) h.2.2.2.2.2.2.2.2.2.2.2.2.2.2.2.2.1, fun s hs => RDn_fr hF (by decide) (h.2.2.2.2.2.2.2.2.2.2.2.2.2.2.2.2.2.1 s hs), RSum_fr hF (by decide) h.2.2.2.2.2.2.2.2.2.2.2.2.2.2.2.2.2.2.1, h.2.2.2.2.2.2.2.2.2.2.2.2.2.2.2.2.2.2.2.1, h.2.2.2.2.2.2.2.2.2.2.2.2.2.2.2.2.2.2.2.2.1, h.2.2.2.2.2.2.2.2.2.2.2.2.2.2.2.2.2.2.2.2.2.1, h.2.2.2.2.2.2.2.2.2.2.2.2.2.2.2.2.2.2.2.2.2.2.1, hld⟩
theorem AFr_writeShot {a : AA} {s : Nat} : AFr [43, 47] [6, 7] a (aWriteShot a s) := by
  unfold aWriteShot
  have h1 : ∀ (b : AA) (f : Nat), AFr [43] [7] b (aSyncFile b s f) := fun b f => AFr_w (AFr_t AFr_fk AFr_I) (by decide) (by decide)
  exact AFr_w (AFr_t (AFr_t AFr_put (h1 _ _)) AFr_I) (by decide) (by decide)
theorem AFr_trim {a : AA} {s : Nat} : AFr [43] [6, 8] a (aTrim a s) := AFr_w (AFr_t (rmAll_ot _ a) AFr_ch) (by decide) (by decide)
theorem AFr_findCode {a : AA} {s : Nat} : AFr [64, 65] [] a (aFindCode a s) := AFr_w (AFr_t AFr_I AFr_I) (by decide) (by decide)
theorem AFr_off0 {a : AA} {s : Nat} : ∀ n, AFr [90] [] a (aOff0 a s n) := by
  intro n
  induction n with
  | zero => exact AFr_w AFr_r (by decide) (by decide)
  | succ n ih => exact AFr_w (AFr_t ih AFr_I) (by decide) (by decide)
theorem aOff0_v {a : AA} {s : Nat} : ∀ n p, p < n → aS (aOff0 a s n) 90 (7 * s + p) = 0 := by
  intro n
  induction n with
  | zero => intro p hp; omega
  | succ n ih =>
    intro p hp
    show (if 90 = 90 ∧ 7 * s + p = 7 * s + n then (0 : Int32) else aS (aOff0 a s n) 90 (7 * s + p)) = 0
    by_cases q : p = n
    · rw [if_pos ⟨rfl, by omega⟩]
    · rw [if_neg (by omega)]
      exact ih p (by omega)
theorem M_compact {F : Nat} {σ : RS} {a : AA} {u : AU} {s : Nat} (hF : 20000 ≤ F) (h : RM σ a u) (hs : s < 7) (hup : aS a 52 s = 1) (hz : u.2 s) (hmk : u.2 (14 + s)) (hn : aHas a s (aS a 76 s) = true) : WP (m_compact F σ (Int32.ofNat s)) (fun τ => RM τ (A_compact a s) u) := by
  have wl := RM_wl h hs
  obtain ⟨k, k1, k2, k3, k4, k5⟩ := aHas_k wl hn
  have mk := h.2.2.2.2.2.2.2.2.2.2.2.2.2.2.2.2.2.2.2.2.2.2.1 s hs hmk
  -- the end: offsets
  have offs : ∀ (b : AA) n p (τ : RS), 8 ≤ p + n → p ≤ 7 → RM τ (aOff0 b s p) (u.1, fun x => u.2 x ∧ x ≠ 7 + s) → (u.2 (7 + s) → aS (aOff0 b s 7) 73 s = 3 → WLd (aOff0 b s 7) s) → WP (m_compact_b118 F n τ (Int32.ofNat s) (Int32.ofNat p)) (fun τ => RM τ (aOff0 b s 7) u) := by
    intro b n
    induction n with
    | zero => intro p τ h1 h2; omega
    | succ n ih =>
      intro p τ h1 h2 hb hw
      unfold m_compact_b118
      refine WP_if (p := 7 ≤ p) (i_gei (q := 7) (by omega) (by omega)) (fun q => ?_) (fun q => ?_)
      · have : p = 7 := by omega
        subst this
        exact WP_some (RM_on7 hb hs hw)
      · rw [i_7]
        refine WP_wld hb hs (by omega) (Or.inr (Or.inr (Or.inr rfl))) (fun y => absurd rfl y.2) (fun σ1 h1' => ?_)
        rw [i_s]
        exact ih (p + 1) σ1 (by omega) (by omega) h1' hw
  have key : ∀ n i (τ : RS), k + 2 ≤ i + n → i ≤ k → RM τ a u → WP (m_compact_b32 F n τ (Int32.ofNat s) (aS a 76 s) (aTermAt a s (aS a 76 s)) (aMemC (aS a 58 s) ((aLg a s).take i)) (aBase a s + 1 + Int32.ofNat i)) (fun τ => RM τ (A_compact a s) u) := by
    intro n
    induction n with
    | zero => intro i τ h1 h2; omega
    | succ n ih =>
      intro i τ h1 h2 hτ
      unfold m_compact_b32
      have en := aB_n wl (show i ≤ (aLg a s).length by omega)
      refine WP_if (p := k ≤ i) (by
        rw [c2_gt, Int32.lt_iff_toInt_lt, en, k5]
        omega) (fun q => ?_) (fun q => ?_)
      · have : i = k := by omega
        subst this
        refine WP_st rfl 7 (by decide +kernel) hs ?_
        refine WP_st rfl 7 (by decide +kernel) hs ?_
        refine WP_st rfl 7 (by decide +kernel) hs ?_
        have r1 := RM_b55 hτ hs k1 k2 k3 k5 (fun _ => Int32.le_refl _)
        have r3 := RM_I (f := 58) (i := s) (v := aMemC (aS a 58 s) ((aLg a s).take i)) (RM_I (f := 57) (i := s) (v := aTermAt a s (aS a 76 s)) r1 (by decide)) (by decide)
        -- the agreed store behind the move of the base
        have eM : aMoveBase a s (aS a 76 s) (aTermAt a s (aS a 76 s)) (aMemC (aS a 58 s) ((aLg a s).take i)) = aI (aI (aI (aLgS a s ((aLg a s).drop i)) 55 s (aS a 76 s)) 57 s (aTermAt a s (aS a 76 s))) 58 s (aMemC (aS a 58 s) ((aLg a s).take i)) := by
          unfold aMoveBase
          dsimp only
          rw [hn, decide_eq_true rfl, k4]
          simp only [Bool.and_self, if_true]
          refine (congrArg (fun z => aI z 77 s (aMin (aS a 77 s) (aLast a s))) (aI_same rfl)).trans (aI_same ?_)
          show aS a 77 s = aMin (aS a 77 s) (aLast a s)
          unfold aMin
          rw [if_pos mk.2.2.2]
        generalize hb : aI (aI (aI (aLgS a s ((aLg a s).drop i)) 55 s (aS a 76 s)) 57 s (aTermAt a s (aS a 76 s))) 58 s (aMemC (aS a 58 s) ((aLg a s).take i)) = b at r3 eM
        have bmc : aMc b s = aMc a s := by rw [← hb]; rfl
        have b73 : aS b 73 s = aS a 73 s := by rw [← hb]; rfl
        have b52 : aS b 52 s = aS a 52 s := by rw [← hb]; rfl
        have bld : u.2 (7 + s) → aS b 73 s = 3 → WLd b s := r3.2.2.2.2.2.2.2.2.2.2.2.2.2.2.2.2.2.2.2.2.2.2.2 s hs
        have r4 := RM_off r3 (7 + s)
        refine WP_call (m_packAll_n (by omega) hs (r3.2.2.2.2.2.2.2.2.2.1 s hs)) (fun p24 hp24 => ?_)
        obtain ⟨τ2, t1, t2⟩ := hp24
        rw [t2]
        have wm := (r3.2.2.2.2.2.2.2.2.2.1 s hs).1
        have r5 := RM_pack (u := u) r4 hs wm t1
        obtain ⟨el1, el2⟩ := aEnc_len wm
        have ea1 : aShS (aI b 67 s (Int32.ofNat (aEnc (aMc b s)).length)) s (aMc b s) = aShS (aI (aMoveBase a s (aS a 76 s) (aTermAt a s (aS a 76 s)) (aMemC (aS a 58 s) ((aLg a s).take i))) 67 s (Int32.ofNat (aSize (aMc a s)))) s (aMc a s) := by
          rw [eM, aSize_e, bmc]
        rw [ea1] at r5
        have eC : A_compact a s = aOff0 (aSoil (aFindCode (aTrim (aWriteShot (aShS (aI (aMoveBase a s (aS a 76 s) (aTermAt a s (aS a 76 s)) (aMemC (aS a 58 s) ((aLg a s).take i))) 67 s (Int32.ofNat (aSize (aMc a s)))) s (aMc a s)) s) s) s) s) s 7 := by
          unfold A_compact
          dsimp only
          rw [k4]
        rw [eC]
        rw [← ea1] at r5 ⊢
        generalize hc : aShS (aI b 67 s (Int32.ofNat (aEnc (aMc b s)).length)) s (aMc b s) = c at r5
        have c67 : aS c 67 s = Int32.ofNat (aEnc (aMc b s)).length := by
          rw [← hc]
          exact if_pos ⟨rfl, rfl⟩
        have cb : AFr [67] [4] b c := by
          rw [← hc]
          exact AFr_w (AFr_t AFr_I AFr_sh) (by decide) (by decide)
        have c67' : ¬ aS c 67 s = 0 := by
          rw [c67, show (0 : Int32) = Int32.ofNat 0 from rfl, i_eqi (by omega) (by omega)]
          omega
        refine WP_call (M_writeShot hF r5 hs c67') (fun p26 hp26 => ?_)
        have fw := @AFr_writeShot c s
        have dup : aS (aWriteShot c s) 52 s = 1 := by rw [fw.1 52 (by decide), cb.1 52 (by decide), b52]; exact hup
        have hpre := WPre_of (hp26.2.2.2.2.2.2.2.2.2.2.2.2.2.2.2.2.2.2.2.2.2.1 s hs ⟨hz, by omega⟩ dup)
        have r6 : RM p26 (aWriteShot c s) ((u.1, fun x => u.2 x ∧ x ≠ 7 + s).1, fun x => (u.1, fun x => u.2 x ∧ x ≠ 7 + s).2 x ∧ x ≠ s) := RM_off hp26 s
        refine WP_call (M_trim (u := (u.1, fun x => u.2 x ∧ x ≠ 7 + s)) (by omega) r6 hs dup hpre) (fun p28 hp28 => ?_)
        refine WP_call (M_findCode (by omega) hp28 hs) (fun p30 hp30 => ?_)
        refine WP_call (M_soil hp30 hs) (fun p32 hp32 => ?_)
        refine offs _ F 0 p32 (by omega) (Nat.zero_le _) hp32 (fun hz7 hr => ?_)
        -- what the leader knows
        have fr : AFr [43, 47, 64, 65, 2, 31, 32, 71] [6, 7, 8] c (aSoil (aFindCode (aTrim (aWriteShot c s) s) s) s) := AFr_w (AFr_t (AFr_t (AFr_t fw AFr_trim) AFr_findCode) AFr_soil) (by decide) (by decide)
        have fo := AFr_off0 (a := aSoil (aFindCode (aTrim (aWriteShot c s) s) s) s) (s := s) 7
        have e : ∀ f, f ∉ [43, 47, 64, 65, 2, 31, 32, 71, 90, 67] → ∀ j, aS (aOff0 (aSoil (aFindCode (aTrim (aWriteShot c s) s) s) s) s 7) f j = aS b f j := by
          intro f hf j
          simp only [List.mem_cons, List.not_mem_nil, or_false, not_or] at hf
          rw [fo.1 f (by simp; omega), fr.1 f (by simp; omega), cb.1 f (by simp; omega)]
        have hr' : aS b 73 s = 3 := by rw [← e 73 (by decide)]; exact hr
        have old := bld hz7 hr'
        intro p hp
        obtain ⟨o1, o2, o3, o4, o5, o6⟩ := old p hp
        have e67 : aS (aOff0 (aSoil (aFindCode (aTrim (aWriteShot c s) s) s) s) s 7) 67 s = Int32.ofNat (aEnc (aMc b s)).length := by
          rw [fo.1 67 (by decide), fr.1 67 (by decide), c67]
        have elast : aLast (aOff0 (aSoil (aFindCode (aTrim (aWriteShot c s) s) s) s) s 7) s = aLast b s := e 56 (by decide) s
        rw [e 86 (by decide), e 87 (by decide), e 88 (by decide), elast, aOff0_v 7 p hp, e67]
        refine ⟨o1, o2, o3, Int32.le_refl _, ?_, o6⟩
        rw [Int32.le_iff_toInt_le, i_0, Int32.toInt_ofNat_of_lt (by omega)]
        omega
      · refine WP_eq m_logOf_n ?_
        have he := RM_ent hτ hs (i := i) (by omega)
        refine WP_ld rfl 3584 (by decide +kernel) (rLp_lt (n := aBase a s + 1 + Int32.ofNat i) hs) ?_
        rw [show τ.1 60 (512 * s + rMod (aBase a s + 1 + Int32.ofNat i)) = _ from he.2.1]
        have etk : (aLg a s).take (i + 1) = (aLg a s).take i ++ [(aLg a s).getD i aE0] := take_s (by omega)
        have eadd : aBase a s + 1 + Int32.ofNat i + 1 = aBase a s + 1 + Int32.ofNat (i + 1) := by
          rw [Int32.add_assoc _ (Int32.ofNat i), i_s]
        refine WP_if c2_ne (fun q2 => ?_) (fun q2 => ?_)
        · unfold m_compact_b62
          rw [eadd]
          have := ih (i + 1) τ (by omega) (by omega) hτ
          rw [etk, aMemC_s, if_neg q2] at this
          exact this
        · have q2 := Classical.not_not.mp q2
          refine WP_eq (RM_code (K := aAk a) hs q2 he.2.2.2.2.2) ?_
          unfold m_compact_b62
          rw [eadd]
          have := ih (i + 1) τ (by omega) (by omega) hτ
          rw [etk, aMemC_s, if_pos q2] at this
          exact this
  unfold m_compact m_compact_b0
  refine WP_r7 h (by decide) hs ?_
  refine WP_eq (M_termAt h hs (Or.inr hn)) ?_
  refine WP_r7 h (by decide) hs ?_
  refine WP_r7 h (by decide) hs ?_
  have := key F 0 σ (by have := wl.2.2.1; omega) (Nat.zero_le _) h
  rw [show aBase a s + 1 + Int32.ofNat 0 = aS a 55 s + 1 from Int32.add_zero _] at this
  exact this
