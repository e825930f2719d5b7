/-! the memory of a server whose disk was read -/
/-- a memory, a store, whose files from a place on count as not synced -/
def z43 (s k : Nat) (σ : RS) : RS := (fun f i => if f = 43 ∧ i / 16 = s ∧ k ≤ i % 16 then 0 else σ.1 f i, σ.2)
def zA (s k : Nat) (a : AA) : AA := (z43 s k a.1, a.2)
theorem z43_Fr {s k : Nat} {σ : RS} : Fr [43] [] σ (z43 s k σ) := by
  refine ⟨fun f hf => ?_, fun _ _ => rfl⟩
  funext i
  exact if_neg (fun z => hf (by rw [z.1]; simp))
theorem z43_f {s k f i : Nat} {σ : RS} (h : f ≠ 43) : (z43 s k σ).1 f i = σ.1 f i := if_neg (fun z => h z.1)
def recB (a : AA) (s b : Nat) (fc : Nat → AF) (c : List Nat) (es : List AE) : AA := aI (aI (aLgS (aChS (aFcS (zA s 0 a) s fc) s c) s es) 56 s (Int32.ofNat (b + es.length))) 52 s 1
theorem RM_rd {σ τ : RS} {a : AA} {u : AU} {s b : Nat} {done c : List Nat} {es : List AE} {fc : Nat → AF} (h : RM σ a u) (hs : s < 7) (z1 : ¬ u.2 s) (z2 : ¬ u.2 (14 + s)) (z3 : ¬ u.2 (7 + s))
    (m1 : ∀ f i, ¬ rcO f i s done → ¬ (f = 56 ∧ i = s) → ¬ (f = 52 ∧ i = s) → τ.1 f i = σ.1 f i) (m2 : ∀ f i, ¬ (f = 63 ∧ i / 16384 = s) → τ.2 f i = σ.2 f i)
    (m52 : τ.1 52 s = 1) (m56 : τ.1 56 s = Int32.ofNat (b + es.length)) (e55 : aS a 55 s = Int32.ofNat b) (hb : b + 300 < 1073741824) (hes : es.length ≤ 300)
    (hlog : RLog (aAk a) τ s (Int32.ofNat b) es)
    (hdone : ∀ g ∈ done, 4 ≤ g ∧ g < 16 ∧ (τ.1 44 (16 * s + g) = 1 ∨ (τ.1 44 (16 * s + g) = σ.1 44 (16 * s + g) ∧ τ.1 37 (2 * (16 * s + g)) = σ.1 37 (2 * (16 * s + g)))))
    (hfc : ∀ f, f < 16 → (f ∈ done → RFl (aAk a) τ (2 * rFx s f) f (fc f)) ∧ (f ∉ done → fc f = aFc a s f))
    (hch : RCh τ s fc c) (hat : RAt τ s (Int32.ofNat b) es fc c) :
    RM (z43 s 0 τ) (recB a s b fc c es) u := by
  have hFz := @z43_Fr s 0 τ
  have hF0 : Fr [59, 60, 61, 62, 50, 51, 49, 37, 44, 56, 52] [63] σ τ := by
    refine ⟨fun f hf => ?_, fun f hf => ?_⟩
    · funext i
      simp at hf
      refine m1 f i ?_ (by omega) (by omega)
      unfold rcO
      rintro (y | y | y | ⟨y, _⟩ | ⟨y, _⟩) <;> omega
    · funext i
      refine m2 f i (fun y => hf (by rw [y.1]; simp))
  have hF : Fr [59, 60, 61, 62, 50, 51, 49, 37, 44, 56, 52, 43] [63] σ (z43 s 0 τ) := Fr_w (Fr_t hF0 hFz) (by simp) (by simp)
  have b52 : ∀ t, aS (recB a s b fc c es) 52 t = if t = s then 1 else aS a 52 t := by
    intro t
    show (if 52 = 52 ∧ t = s then (1 : Int32) else aS a 52 t) = _
    by_cases q : t = s
    · rw [if_pos ⟨rfl, q⟩, if_pos q]
    · rw [if_neg (fun z => q z.2), if_neg q]
  have b56 : ∀ t, aS (recB a s b fc c es) 56 t = if t = s then Int32.ofNat (b + es.length) else aS a 56 t := by
    intro t
    show (if 56 = 56 ∧ t = s then Int32.ofNat (b + es.length) else aS a 56 t) = _
    by_cases q : t = s
    · rw [if_pos ⟨rfl, q⟩, if_pos q]
    · rw [if_neg (fun z => q z.2), if_neg q]
  have b43 : ∀ i, aS (recB a s b fc c es) 43 i = if i / 16 = s then 0 else aS a 43 i := by
    intro i
    show (if 43 = 43 ∧ i / 16 = s ∧ 0 ≤ i % 16 then (0 : Int32) else aS a 43 i) = _
    by_cases q : i / 16 = s
    · rw [if_pos ⟨rfl, q, Nat.zero_le _⟩, if_pos q]
    · rw [if_neg (fun z => q z.2.1), if_neg q]
  have bg : ∀ f i, f ≠ 43 → f ≠ 52 → f ≠ 56 → aS (recB a s b fc c es) f i = aS a f i := by
    intro f i h1 h2 h3
    show (setI (setI (z43 s 0 a.1) 56 s _) 52 s 1).1 f i = _
    rw [setI_f h2, setI_f h3, z43_f h1]
    rfl
  have bfc : ∀ t, aFc (recB a s b fc c es) t = if t = s then fc else aFc a t := fun _ => rfl
  have blg : ∀ t, aLg (recB a s b fc c es) t = if t = s then es else aLg a t := fun _ => rfl
  have bch : ∀ t, aCh (recB a s b fc c es) t = if t = s then c else aCh a t := fun _ => rfl
  have hsc : RSc (z43 s 0 τ) (recB a s b fc c es) := by
    refine ⟨fun f hf i hi => ?_, ?_, fun t ht => ?_⟩
    · show _ = aS (recB a s b fc c es) f i
      have old := h.1.1 f hf i hi
      by_cases q43 : f = 43
      · subst q43
        rw [b43]
        show (if 43 = 43 ∧ i / 16 = s ∧ 0 ≤ i % 16 then (0 : Int32) else τ.1 43 i) = _
        by_cases q : i / 16 = s
        · rw [if_pos ⟨rfl, q, Nat.zero_le _⟩, if_pos q]
        · rw [if_neg (fun z => q z.2.1), if_neg q, hF0.1 43 (by decide)]
          exact old
      · rw [z43_f q43]
        by_cases q52 : f = 52
        · subst q52
          rw [b52]
          by_cases q : i = s
          · rw [if_pos q, q, m52]
          · rw [if_neg q, m1 52 i (by unfold rcO; omega) (by omega) (fun z => q z.2)]
            exact old
        · by_cases q56 : f = 56
          · subst q56
            rw [b56]
            by_cases q : i = s
            · rw [if_pos q, q, m56]
            · rw [if_neg q, m1 56 i (by unfold rcO; omega) (fun z => q z.2) (by omega)]
              exact old
          · rw [bg f i q43 q52 q56, hF0.1 f ?_]
            · exact old
            · simp
              refine ⟨?_, ?_, ?_, ?_, ?_, ?_, ?_, ?_, ?_, q56, q52⟩ <;> (intro y; rw [y] at hf; exact absurd hf (by decide))
    · rw [hF.2 28 (by decide)]
      exact h.1.2.1
    · rw [hF.2 84 (by decide)]
      exact h.1.2.2 t ht
  have hlg : ∀ t, t < 7 → RLog (aAk a) (z43 s 0 τ) t (aS (recB a s b fc c es) 55 t) (aLg (recB a s b fc c es) t) := by
    intro t ht
    refine RLog_fr hFz (by decide) ?_
    rw [bg 55 t (by decide) (by decide) (by decide), blg]
    by_cases q : t = s
    · rw [if_pos q, q, e55]
      exact hlog
    · rw [if_neg q]
      intro i hi
      obtain ⟨y1, y2, y3, y4, y5, y6⟩ := h.2.2.2.2.1 t ht i hi
      have hr : rLp t (aS a 55 t + 1 + Int32.ofNat i) / 512 = t := by
        have : rMod (aS a 55 t + 1 + Int32.ofNat i) < 512 := rMod_lt
        unfold rLp
        omega
      generalize rLp t (aS a 55 t + 1 + Int32.ofNat i) = p at y1 y2 y3 y6 hr ⊢
      have e : ∀ f, 59 ≤ f → f ≤ 61 → τ.1 f p = σ.1 f p := fun f h1 h2 => m1 f p (by unfold rcO; rintro (y | y | y | ⟨y, _⟩ | ⟨y, _⟩) <;> omega) (by omega) (by omega)
      refine ⟨(e 59 (by omega) (by omega)).trans y1, (e 60 (by omega) (by omega)).trans y2, (e 61 (by omega) (by omega)).trans y3, y4, y5, fun x v hx hv => ?_⟩
      rw [← y6 x v hx hv]
      show rB (τ.2 63) _ = rB (σ.2 63) _
      unfold rB
      rw [m2 63 _ (by omega)]
  have hdk : ∀ t, t < 7 → RDk (aAk a) (z43 s 0 τ) t (aFc (recB a s b fc c es) t) (aFk a t) := by
    intro t ht
    refine RDk_fr hFz (by decide) ?_
    intro f hf
    obtain ⟨w1, w2, w3, w4⟩ := h.2.2.2.2.2.1 t ht f hf
    have e36 : τ.2 36 = σ.2 36 := hF0.2 36 (by decide)
    have same : ¬ (t = s ∧ f ∈ done) → (∀ g, g ∈ [37, 38, 39, 40, 41, 42] → τ.1 g (2 * rFx t f) = σ.1 g (2 * rFx t f)) ∧ τ.1 44 (rFx t f) = σ.1 44 (rFx t f) := by
      intro q
      refine ⟨fun g hg => m1 g _ ?_ (by simp at hg; omega) (by simp at hg; omega), m1 44 _ ?_ (by omega) (by omega)⟩
      · unfold rcO rFx
        simp at hg
        rintro (y | y | y | ⟨y, x, hx, ex⟩ | ⟨y, _⟩)
        · omega
        · omega
        · omega
        · obtain ⟨d1, d2, _⟩ := hdone x hx
          exact q ⟨by omega, (show f = x by omega) ▸ hx⟩
        · omega
      · unfold rcO rFx
        rintro (y | y | y | ⟨y, _⟩ | ⟨y, x, hx, ex⟩)
        · omega
        · omega
        · omega
        · omega
        · obtain ⟨d1, d2, _⟩ := hdone x hx
          exact q ⟨by omega, (show f = x by omega) ▸ hx⟩
    have kept : ∀ g, g ∈ [37, 38, 39, 40, 41, 42] → τ.1 g (2 * rFx t f + 1) = σ.1 g (2 * rFx t f + 1) := by
      intro g hg
      refine m1 g _ ?_ (by simp at hg; omega) (by simp at hg; omega)
      unfold rcO
      simp at hg
      rintro (y | y | y | ⟨y, x, hx, ex⟩ | ⟨y, _⟩) <;> omega
    have k2 : RFl (aAk a) τ (2 * rFx t f + 1) f (aFk a t f) := RFl_eq kept (fun i _ => by rw [e36]) w2
    by_cases q : t = s ∧ f ∈ done
    · obtain ⟨rfl, q⟩ := q
      obtain ⟨d1, d2, d3⟩ := hdone f q
      rw [bfc, if_pos rfl]
      refine ⟨(hfc f hf).1 q, k2, ?_, fun y => ?_⟩
      · rcases d3 with d3 | ⟨d3, _⟩
        · exact Or.inr d3
        · show τ.1 44 (16 * t + f) = 0 ∨ τ.1 44 (16 * t + f) = 1
          rw [d3]
          exact w3
      · have y : τ.1 44 (16 * t + f) = 0 := y
        rcases d3 with d3 | ⟨d3, d4⟩
        · rw [d3] at y
          exact absurd y (by decide)
        · rw [d3] at y
          obtain ⟨v1, v2⟩ := w4 y
          have cur : ∀ g, g ∈ [37, 38, 39, 40, 41, 42] → τ.1 g (2 * rFx t f) = σ.1 g (2 * rFx t f) := by
            intro g hg
            by_cases q37 : g = 37
            · rw [q37]
              exact d4
            · refine m1 g _ ?_ (by simp at hg; omega) (by simp at hg; omega)
              unfold rcO
              simp at hg
              rintro (y | y | y | ⟨y, _⟩ | ⟨y, _⟩) <;> omega
          refine ⟨fun g hg => by rw [kept g hg, cur g hg]; exact v1 g hg, fun i hi => ?_⟩
          rw [cur 37 (by simp)] at hi
          rw [e36]
          exact v2 i hi
    · obtain ⟨cur, e44⟩ := same q
      have efc : aFc (recB a s b fc c es) t f = aFc a t f := by
        rw [bfc]
        by_cases q2 : t = s
        · rw [if_pos q2, (hfc f hf).2 (fun z => q ⟨q2, z⟩), q2]
        · rw [if_neg q2]
      rw [efc]
      refine ⟨RFl_eq cur (fun i _ => by rw [e36]) w1, k2, by rw [e44]; exact w3, fun y => ?_⟩
      rw [e44] at y
      obtain ⟨v1, v2⟩ := w4 y
      refine ⟨fun g hg => by rw [kept g hg, cur g hg]; exact v1 g hg, fun i hi => ?_⟩
      rw [cur 37 (by simp)] at hi
      rw [e36]
      exact v2 i hi
  have hsl : ∀ t, t < 7 → RSl (z43 s 0 τ) t (aS (recB a s b fc c es) 150 t) (aFc (recB a s b fc c es) t) (aFk a t) := by
    intro t ht
    refine RSl_fr hF (by decide) ?_
    rw [bg 150 t (by decide) (by decide) (by decide)]
    have e2 : ∀ x, x < 2 → aFc (recB a s b fc c es) t x = aFc a t x := by
      intro x hx
      rw [bfc]
      by_cases q2 : t = s
      · rw [if_pos q2, (hfc x (by omega)).2 (fun z => by have := (hdone x z).1; omega), q2]
      · rw [if_neg q2]
    intro x y hx hy
    rw [e2 x.1 hx, e2 y.1 hy]
    exact h.2.2.2.2.2.2.1 t ht x y hx hy
  have hc : ∀ t, t < 7 → aS (recB a s b fc c es) 52 t = 1 → RCh (z43 s 0 τ) t (aFc (recB a s b fc c es) t) (aCh (recB a s b fc c es) t) := by
    intro t ht hu
    refine RCh_fr hFz (by decide) ?_
    rw [bfc, bch]
    rw [b52] at hu
    by_cases q : t = s
    · rw [if_pos q, if_pos q, q]
      exact hch
    · rw [if_neg q] at hu
      rw [if_neg q, if_neg q]
      obtain ⟨y1, y2, y3⟩ := h.2.2.2.2.2.2.2.1 t ht hu
      refine ⟨?_, y2, fun i hi => ?_⟩
      · rw [m1 49 t (by unfold rcO; omega) (by omega) (by omega)]
        exact y1
      · obtain ⟨x1, x2, x3, x4⟩ := y3 i hi
        refine ⟨x1, x2, ?_, ?_⟩
        · rw [m1 50 _ (by unfold rcO; rintro (y | y | y | ⟨y, _⟩ | ⟨y, _⟩) <;> omega) (by omega) (by omega)]
          exact x3
        · rw [m1 51 _ (by unfold rcO; rintro (y | y | y | ⟨y, _⟩ | ⟨y, _⟩) <;> omega) (by omega) (by omega)]
          exact x4
  have ha : ∀ t, t < 7 → aS (recB a s b fc c es) 52 t = 1 → RAt (z43 s 0 τ) t (aS (recB a s b fc c es) 55 t) (aLg (recB a s b fc c es) t) (aFc (recB a s b fc c es) t) (aCh (recB a s b fc c es) t) := by
    intro t ht hu
    refine RAt_fr hFz (by decide) ?_
    rw [bfc, bch, blg, bg 55 t (by decide) (by decide) (by decide)]
    rw [b52] at hu
    by_cases q : t = s
    · rw [if_pos q, if_pos q, if_pos q, q, e55]
      exact hat
    · rw [if_neg q] at hu
      rw [if_neg q, if_neg q, if_neg q]
      intro f hf k i hi hk e
      rw [← h.2.2.2.2.2.2.2.2.1 t ht hu f hf k i hi hk e]
      have : rMod (aS a 55 t + 1 + Int32.ofNat i) < 512 := rMod_lt
      refine m1 62 _ ?_ (by omega) (by omega)
      unfold rcO rLp
      rintro (y | y | y | ⟨y, _⟩ | ⟨y, _⟩) <;> omega
  have hlc : aLoc (recB a s b fc c es) := by
    obtain ⟨l1, l2, l3, l4, l5⟩ := h.2.2.2.2.2.2.2.2.2.2.2.2.2.2.2.2.2.2.2.1
    refine ⟨by rw [bg 27 0 (by decide) (by decide) (by decide)]; exact l1, by rw [bg 27 0 (by decide) (by decide) (by decide)]; exact l2, fun t ht f hf => ?_, fun t ht => by rw [bg 150 t (by decide) (by decide) (by decide)]; exact l4 t ht, fun t ht => by rw [bg 45 t (by decide) (by decide) (by decide), bg 46 t (by decide) (by decide) (by decide)]; exact l5 t ht⟩
    rw [b43]
    by_cases q : t = s
    · rw [if_pos (by omega)]
      refine ⟨Int32.le_refl _, ?_⟩
      obtain ⟨_, _, _, ⟨S, hS, e, _⟩, _⟩ := (hdk t ht f hf).1
      rw [e]
      exact Int32.not_lt.mp (i_nn (by omega))
    · rw [if_neg (by omega), bfc, if_neg q]
      exact l3 t ht f hf
  have hwl : ∀ t, t < 7 → WLg (recB a s b fc c es) t := by
    intro t ht
    have old := h.2.2.2.2.2.2.2.2.2.2.2.2.2.2.2.2.2.2.2.2.1 t ht
    unfold WLg aLast aBase at old ⊢
    rw [b56, blg, bg 55 t (by decide) (by decide) (by decide)]
    by_cases q : t = s
    · rw [if_pos q, if_pos q, q, e55, Int32.toInt_ofNat_of_lt (by omega), Int32.toInt_ofNat_of_lt (by omega)]
      refine ⟨by omega, by omega, hes, by omega⟩
    · rw [if_neg q, if_neg q]
      exact old
  have hwc : ∀ t, t < 7 → u.2 t → aS (recB a s b fc c es) 52 t = 1 → WCh (recB a s b fc c es) t := by
    intro t ht hz hu
    have q : t ≠ s := fun q => z1 (q ▸ hz)
    rw [b52, if_neg q] at hu
    have old := h.2.2.2.2.2.2.2.2.2.2.2.2.2.2.2.2.2.2.2.2.2.1 t ht hz hu
    unfold WCh aLast aBase at old ⊢
    rw [bch, bfc, b56, bg 55 t (by decide) (by decide) (by decide), if_neg q, if_neg q, if_neg q]
    exact old
  have hwm : ∀ t, t < 7 → u.2 (14 + t) → WMk (recB a s b fc c es) t := by
    intro t ht hz
    have q : t ≠ s := fun q => z2 (q ▸ hz)
    have old := h.2.2.2.2.2.2.2.2.2.2.2.2.2.2.2.2.2.2.2.2.2.2.1 t ht hz
    unfold WMk aLast aBase at old ⊢
    rw [b56, if_neg q, bg 55 t (by decide) (by decide) (by decide), bg 76 t (by decide) (by decide) (by decide), bg 75 t (by decide) (by decide) (by decide), bg 77 t (by decide) (by decide) (by decide)]
    exact old
  have hld : ∀ t, t < 7 → u.2 (7 + t) → aS (recB a s b fc c es) 73 t = 3 → WLd (recB a s b fc c es) t := by
    intro t ht hz hr
    have q : t ≠ s := fun q => z3 (q ▸ hz)
    rw [bg 73 t (by decide) (by decide) (by decide)] at hr
    have old := h.2.2.2.2.2.2.2.2.2.2.2.2.2.2.2.2.2.2.2.2.2.2.2 t ht hz hr
    intro p hp
    have := old p hp
    unfold aLast at this ⊢
    rw [b56, if_neg q, bg 86 _ (by decide) (by decide) (by decide), bg 87 _ (by decide) (by decide) (by decide), bg 90 _ (by decide) (by decide) (by decide), bg 67 t (by decide) (by decide) (by decide), bg 88 _ (by decide) (by decide) (by decide)]
    exact this
  exact ⟨hsc, RWay_fr hF (by decide) h.2.1, fun s hs => RWt_fr hF (by decide) (h.2.2.1 s hs), fun l hl => RLt_fr hF (by decide) (h.2.2.2.1 l hl), hlg, hdk, hsl, hc, ha, fun s hs => RMc_fr hF (by decide) (h.2.2.2.2.2.2.2.2.2.1 s hs), fun s hs => RSh_fr hF (by decide) (h.2.2.2.2.2.2.2.2.2.2.1 s hs), fun s hs => RPc_fr hF (by decide) (h.2.2.2.2.2.2.2.2.2.2.2.1 s hs), fun s hs => RRq_fr hF (by decide) (h.2.2.2.2.2.2.2.2.2.2.2.2.1 s hs), RAk_fr hF (by decide) h.2.2.2.2.2.2.2.2.2.2.2.2.2.1, fun s hs => RWn_fr hF (by decide) (h.2.2.2.2.2.2.2.2.2.2.2.2.2.2.1 s hs), RTp_fr hF (by decide) h.2.2.2.2.2.2.2.2.2.2.2.2.2.2.2.1, RRe_fr hF (by decide) h.2.2.2.2.2.2.2.2.2.2.2.2.2.2.2.2.1, fun s hs => RDn_fr hF (by decide) (h.2.2.2.2.2.2.2.2.2.2.2.2.2.2.2.2.2.1 s hs), RSum_fr hF (by decide) h.2.2.2.2.2.2.2.2.2.2.2.2.2.2.2.2.2.2.1, hlc, hwl, hwc, hwm, hld⟩
