/-! requests begin to wait -/
def hdQ (a : AA) (s : Nat) (l : AL) (number round : Int32) : AQ := fun j => if j = 0 then aS a 151 s else if j = 1 then l.1 2 else if j = 2 then l.1 5 else if j = 3 then l.1 16 else if j = 4 then number else if j = 5 then aS a 53 s else round
/-- what changes when one begins to wait -/
def SLh (s w : Nat) (σ σ' : RS) : Prop := (∀ f i, ¬ (95 ≤ f ∧ f ≤ 104 ∧ i = w) → ¬ (f = 105 ∧ i / 64 = w) → ¬ (f = 94 ∧ i = s) → σ'.1 f i = σ.1 f i) ∧ σ'.2 = σ.2
theorem SLh_I {s w : Nat} {σ τ : RS} {f i : Nat} {v : Int32} (h : SLh s w σ τ) (q : (95 ≤ f ∧ f ≤ 104 ∧ i = w) ∨ (f = 105 ∧ i / 64 = w) ∨ (f = 94 ∧ i = s)) : SLh s w σ (setI τ f i v) := by
  refine ⟨fun g j h1 h2 h3 => ?_, h.2⟩
  show (if g = f ∧ j = i then v else τ.1 g j) = _
  rw [if_neg]
  · exact h.1 g j h1 h2 h3
  · rintro ⟨rfl, rfl⟩
    rcases q with q | q | q
    · exact h1 q
    · exact h2 q
    · exact h3 q
theorem SLh_Fr {s w : Nat} {σ σ' : RS} (h : SLh s w σ σ') : Fr [94, 95, 96, 97, 98, 99, 100, 101, 102, 103, 104, 105] [] σ σ' := by
  refine ⟨fun f hf => ?_, fun f _ => by rw [h.2]⟩
  funext i
  refine h.1 f i (fun z => hf ?_) (fun z => hf ?_) (fun z => hf ?_)
  · simp
    omega
  · simp
    omega
  · simp
    omega
theorem RRq1_h {K : List AK} {s w w' : Nat} {σ σ' : RS} {q : AQ} (h : SLh s w σ σ') (hw : w' ≠ w) (z : RRq1 K σ w' q) : RRq1 K σ' w' q := by
  have e : ∀ f, 95 ≤ f → f ≤ 104 → σ'.1 f w' = σ.1 f w' := fun f h1 h2 => h.1 f w' (fun y => hw y.2.2) (fun y => by omega) (fun y => by omega)
  obtain ⟨z1, z2, z3, z4, z5, z6, z7, z8, z9⟩ := z
  refine ⟨(e 95 (by omega) (by omega)).trans z1, (e 96 (by omega) (by omega)).trans z2, (e 97 (by omega) (by omega)).trans z3, (e 98 (by omega) (by omega)).trans z4, fun y => (e 99 (by omega) (by omega)).trans (z5 y), (e 100 (by omega) (by omega)).trans z6, (e 101 (by omega) (by omega)).trans z7, z8, fun y => ?_⟩
  obtain ⟨k1, k2, k3, k4, k5, k6, k7, k8⟩ := z9 y
  refine ⟨k1, k2, k3, (e 102 (by omega) (by omega)).trans k4, (e 103 (by omega) (by omega)).trans k5, (e 104 (by omega) (by omega)).trans k6, k7, fun i hi => ?_⟩
  rw [h.1 105 (64 * w' + i) (fun y => by omega) (fun y => by omega) (fun y => by omega)]
  exact k8 i hi
theorem i_32n {n d b j : Nat} (h : Int32.ofNat (d + j) = Int32.ofNat (d + b) - 32) (hb : d + b < 2147483648) (hj : j < b) (hb2 : b ≤ j + 32) : j + 32 = b := by
  have h2 := congrArg Int32.toInt h
  rw [i_subI (by rw [Int32.toInt_ofNat_of_lt hb, show (32 : Int32).toInt = 32 by decide]; omega) (by rw [Int32.toInt_ofNat_of_lt hb, show (32 : Int32).toInt = 32 by decide]; omega), Int32.toInt_ofNat_of_lt hb, Int32.toInt_ofNat_of_lt (by omega), show (32 : Int32).toInt = 32 by decide] at h2
  omega
theorem RM_hold {σ σ' : RS} {a : AA} {u : AU} {s b : Nat} {l : AL} {number round : Int32} (h : RM σ a u) (hs : s < 7) (hmx : (aS a 151 s).toInt < 2147483000) (h94 : σ.1 94 s = Int32.ofNat b) (hb : b < 2147483648) (hS : SLh s (32 * s + b % 32) σ σ') (h94' : σ'.1 94 s = Int32.ofNat (b + 1)) (hq : RRq1 (aAk a) σ' (32 * s + b % 32) (hdQ a s l number round)) : RM σ' (aHold a s l number round) u := by
  have hF := SLh_Fr hS
  have eH : aHold a s l number round = aI (aRqS a s ((aRq a s).filter (fun x => !decide (x 0 = aS a 151 s - 32)) ++ [hdQ a s l number round])) 151 s (aS a 151 s + 1) := rfl
  rw [eH]
  have hsc : RSc σ' (aI (aRqS a s ((aRq a s).filter (fun x => !decide (x 0 = aS a 151 s - 32)) ++ [hdQ a s l number round])) 151 s (aS a 151 s + 1)) := by
    have z := RSc_fr hF (by decide) h.1
    refine ⟨fun f hf i hi => ?_, z.2⟩
    rw [z.1 f hf i hi]
    show a.1.1 f i = if f = 151 ∧ i = s then _ else a.1.1 f i
    rw [if_neg]
    rintro ⟨rfl, _⟩
    exact absurd hf (by decide)
  have hrq : ∀ t, t < 7 → RRq (aAk a) σ' t (u.1.2 t) (aS (aI (aRqS a s ((aRq a s).filter (fun x => !decide (x 0 = aS a 151 s - 32)) ++ [hdQ a s l number round])) 151 s (aS a 151 s + 1)) 151 t) (aRq (aI (aRqS a s ((aRq a s).filter (fun x => !decide (x 0 = aS a 151 s - 32)) ++ [hdQ a s l number round])) 151 s (aS a 151 s + 1)) t) := by
    intro t ht
    obtain ⟨b', e1, e1', e2, e3, e4, e5⟩ := h.2.2.2.2.2.2.2.2.2.2.2.2.1 t ht
    rw [show aS (aI (aRqS a s ((aRq a s).filter (fun x => !decide (x 0 = aS a 151 s - 32)) ++ [hdQ a s l number round])) 151 s (aS a 151 s + 1)) 151 t = if t = s then aS a 151 s + 1 else aS a 151 t by
      show (if 151 = 151 ∧ t = s then _ else _) = _
      by_cases q : t = s
      · rw [if_pos ⟨rfl, q⟩, if_pos q]
      · rw [if_neg (fun z => q z.2), if_neg q]
        rfl, show aRq (aI (aRqS a s ((aRq a s).filter (fun x => !decide (x 0 = aS a 151 s - 32)) ++ [hdQ a s l number round])) 151 s (aS a 151 s + 1)) t = if t = s then (aRq a s).filter (fun x => !decide (x 0 = aS a 151 s - 32)) ++ [hdQ a s l number round] else aRq a t from rfl]
    by_cases q : t = s
    · rw [if_pos q, if_pos q]
      subst q
      have ebb : b' = b := by
        rw [h94] at e2
        exact ((i_eqi hb (by omega)).mp e2).symm
      subst ebb
      rw [e1] at hmx
      rw [Int32.toInt_ofNat_of_lt e1'] at hmx
      have eq0 : hdQ a t l number round 0 = Int32.ofNat (u.1.2 t + b') := e1
      have ej : rqj (u.1.2 t) (hdQ a t l number round) = b' := by
        unfold rqj
        rw [eq0, i_cl e1']
        omega
      have hkeep : ∀ x ∈ (aRq a t).filter (fun x => !decide (x 0 = aS a 151 t - 32)), x ∈ aRq a t ∧ rqj (u.1.2 t) x + 32 ≠ b' := by
        intro x hx
        rw [List.mem_filter] at hx
        refine ⟨hx.1, fun z => ?_⟩
        obtain ⟨y1, y2, y3, y4⟩ := e4 x hx.1
        have hx2 := hx.2
        have : x 0 = aS a 151 t - 32 := by
          rw [y1, e1, ← z, show u.1.2 t + (rqj (u.1.2 t) x + 32) = (u.1.2 t + rqj (u.1.2 t) x) + 32 by omega, Int32.ofNat_add (u.1.2 t + rqj (u.1.2 t) x) 32]
          exact (Int32.add_sub_cancel _ _).symm
        rw [decide_eq_true this] at hx2
        exact absurd hx2 (by decide)
      refine ⟨b' + 1, ?_, by omega, h94', ?_, fun x hx => ?_, fun w hw => ?_⟩
      · rw [e1, i_s]
        rfl
      · rw [List.map_append, List.pairwise_append]
        refine ⟨(e3.sublist (List.filter_sublist.map _)), by simp, fun x hx y hy => ?_⟩
        rw [List.mem_map] at hx
        obtain ⟨x', hx', rfl⟩ := hx
        rw [List.map_cons, List.map_nil, List.mem_singleton] at hy
        rw [hy, ej]
        exact (e4 x' (hkeep x' hx').1).2.1
      · rw [List.mem_append] at hx
        rcases hx with hx | hx
        · obtain ⟨y1, y2, y3, y4⟩ := e4 x (hkeep x hx).1
          have ne := (hkeep x hx).2
          exact ⟨y1, by omega, by omega, RRq1_h hS (by omega) y4⟩
        · rw [List.mem_singleton] at hx
          rw [hx, ej]
          exact ⟨eq0, by omega, by omega, hq⟩
      · by_cases z : w = b' % 32
        · rw [z]
          rw [if_pos, hq.1]
          rw [List.map_append, List.mem_append]
          right
          rw [List.map_cons, ej, List.map_nil]
          exact List.mem_cons_self
        · rw [hS.1 95 (32 * t + w) (fun y => by omega) (fun y => by omega) (fun y => by omega), e5 w hw]
          have : w ∈ (aRq a t).map (fun q => rqj (u.1.2 t) q % 32) ↔ w ∈ ((aRq a t).filter (fun x => !decide (x 0 = aS a 151 t - 32)) ++ [hdQ a t l number round]).map (fun q => rqj (u.1.2 t) q % 32) := by
            rw [List.mem_map, List.mem_map]
            constructor
            · rintro ⟨x, hx, ex⟩
              refine ⟨x, List.mem_append_left _ ?_, ex⟩
              rw [List.mem_filter]
              refine ⟨hx, ?_⟩
              obtain ⟨y1, y2, y3, y4⟩ := e4 x hx
              have : ¬ x 0 = aS a 151 t - 32 := by
                intro y
                rw [y1, e1] at y
                have := i_32n (n := 0) y e1' y2 y3
                omega
              rw [decide_eq_false this]
              rfl
            · rintro ⟨x, hx, ex⟩
              rw [List.mem_append] at hx
              rcases hx with hx | hx
              · exact ⟨x, (hkeep x hx).1, ex⟩
              · rw [List.mem_singleton] at hx
                rw [hx, ej] at ex
                exact absurd ex.symm z
          simp only [this]
    · rw [if_neg q, if_neg q]
      refine ⟨b', e1, e1', (hS.1 94 t (fun y => by omega) (fun y => by omega) (fun y => q y.2)).trans e2, e3, fun x hx => ?_, fun w hw => ?_⟩
      · obtain ⟨y1, y2, y3, y4⟩ := e4 x hx
        exact ⟨y1, y2, y3, RRq1_h hS (by omega) y4⟩
      · rw [hS.1 95 (32 * t + w) (fun y => by omega) (fun y => by omega) (fun y => by omega)]
        exact e5 w hw
  exact ⟨hsc, RWay_fr hF (by decide) h.2.1, fun s hs => RWt_fr hF (by decide) (h.2.2.1 s hs), fun l hl => RLt_fr hF (by decide) (h.2.2.2.1 l hl), fun s hs => RLog_fr hF (by decide) (h.2.2.2.2.1 s hs), fun s hs => RDk_fr hF (by decide) (h.2.2.2.2.2.1 s hs), fun s hs => RSl_fr hF (by decide) (h.2.2.2.2.2.2.1 s hs), fun s hs hu => RCh_fr hF (by decide) (h.2.2.2.2.2.2.2.1 s hs hu), fun s hs hu => RAt_fr hF (by decide) (h.2.2.2.2.2.2.2.2.1 s hs hu), fun s hs => RMc_fr hF (by decide) (h.2.2.2.2.2.2.2.2.2.1 s hs), fun s hs => RSh_fr hF (by decide) (h.2.2.2.2.2.2.2.2.2.2.1 s hs), fun s hs => RPc_fr hF (by decide) (h.2.2.2.2.2.2.2.2.2.2.2.1 s hs), hrq, RAk_fr hF (by decide) h.2.2.2.2.2.2.2.2.2.2.2.2.2.1, fun s hs => RWn_fr hF (by decide) (h.2.2.2.2.2.2.2.2.2.2.2.2.2.2.1 s hs), RTp_fr hF (by decide) h.2.2.2.2.2.2.2.2.2.2.2.2.2.2.2.1, RRe_fr hF (by decide) h.2.2.2.2.2.2.2.2.2.2.2.2.2.2.2.2.1, fun s hs => RDn_fr hF (by decide) (h.2.2.2.2.2.2.2.2.2.2.2.2.2.2.2.2.2.1 s hs), RSum_fr hF (by decide) h.2.2.2.2.2.2.2.2.2.2.2.2.2.2.2.2.2.2.1, h.2.2.2.2.2.2.2.2.2.2.2.2.2.2.2.2.2.2.2.1, h.2.2.2.2.2.2.2.2.2.2.2.2.2.2.2.2.2.2.2.2.1, h.2.2.2.2.2.2.2.2.2.2.2.2.2.2.2.2.2.2.2.2.2.1, h.2.2.2.2.2.2.2.2.2.2.2.2.2.2.2.2.2.2.2.2.2.2.1, h.2.2.2.2.2.2.2.2.2.2.2.2.2.2.2.2.2.2.2.2.2.2.2⟩
/-- what is told of a request that begins to wait -/
def hdOK (a : AA) (s : Nat) (l : AL) (round rd kd kk ln : Int32) : Prop := (rd = 0 ∧ round = -1 ∧ ln = 0) ∨ (rd = 1 ∧ ¬ round = -1 ∧ round = aS a 83 s + 1 ∧ (l.1 16).toNatClampNeg < (aAk a).length ∧ ∃ k, (aAk a).getD (l.1 16).toNatClampNeg (fun _ => 0, []) = k ∧ 3 ≤ k.1 1 ∧ k.1 1 ≤ 5 ∧ kd = k.1 1 ∧ kk = k.1 7 ∧ ln = Int32.ofNat k.2.length ∧ k.2.length ≤ 64 ∧ (∀ b ∈ k.2, aLow8 b = b) ∧ lBs (aAk a) l = k.2)
theorem M_hold {F : Nat} {σ : RS} {a : AA} {u : AU} {s : Nat} {l : AL} {number round rd kd kk ln : Int32} (hF : 400 ≤ F) (h : RM σ a u) (hs : s < 7) (hl : u.1.1 = some l) (hc : aInR (l.1 2) 8 15 = true) (hmx : (aS a 151 s).toInt < 2147483000) (hk : hdOK a s l round rd kd kk ln) : WP (m_hold F σ (Int32.ofNat s) number (l.1 2) (l.1 5) kd kk ln rd) (fun τ => RM τ (aHold a s l number round) u) := by
  obtain ⟨b, e1, e1', e2, e3, e4, e5⟩ := h.2.2.2.2.2.2.2.2.2.2.2.2.1 s hs
  unfold m_hold m_hold_b0
  refine WP_ld rfl 7 (by decide +kernel) hs ?_
  refine WP_ld rfl 7 (by decide +kernel) hs ?_
  refine WP_st rfl 7 (by decide +kernel) hs ?_
  rw [e2, show Int32.ofNat b &&& (31 : Int32) = Int32.ofNat (b % 32) from i_and 5 (by decide), i_s]
  have ew : (32 : Int32) * Int32.ofNat s + Int32.ofNat (b % 32) = Int32.ofNat (32 * s + b % 32) := i_ma
  rw [ew]
  have hw : 32 * s + b % 32 < 224 := by omega
  refine WP_st rfl 224 (by decide +kernel) hw ?_
  refine WP_st rfl 224 (by decide +kernel) hw ?_
  refine WP_st rfl 224 (by decide +kernel) hw ?_
  refine WP_ld rfl 7 (by decide +kernel) hs ?_
  refine WP_st rfl 224 (by decide +kernel) hw ?_
  refine WP_ld rfl 7 (by decide +kernel) hs ?_
  refine WP_st rfl 224 (by decide +kernel) hw ?_
  refine WP_st rfl 224 (by decide +kernel) hw ?_
  refine WP_st rfl 224 (by decide +kernel) hw ?_
  refine WP_st rfl 224 (by decide +kernel) hw ?_
  refine WP_st rfl 224 (by decide +kernel) hw ?_
  refine WP_st rfl 224 (by decide +kernel) hw ?_
  generalize hww : 32 * s + b % 32 = w at hw ⊢
  have key : ∀ τ : RS, (∀ f, f ≠ 105 → τ.1 f = (setI (setI (setI (setI (setI (setI (setI (setI (setI (setI (setI σ 94 s (Int32.ofNat (b + 1))) 95 w (1 &&& 1)) 96 w (rd &&& 1)) 97 w number) 98 w (σ.1 53 s)) 99 w (σ.1 83 s + 1)) 100 w (l.1 2)) 101 w (l.1 5)) 102 w kd) 103 w kk) 104 w ln).1 f) → τ.2 = σ.2 → (∀ i, ¬ i / 64 = w → τ.1 105 i = σ.1 105 i) → (rd = 1 → ∀ i, i < ln.toNatClampNeg → τ.1 105 (64 * w + i) = (lBs (aAk a) l).getD i 0) → RM τ (aHold a s l number round) u := by
    intro τ t1 t2 t3 t4
    have g : ∀ f, f ≠ 105 → ∀ i, ¬ (95 ≤ f ∧ f ≤ 104 ∧ i = w) → ¬ (f = 94 ∧ i = s) → τ.1 f i = σ.1 f i := by
      intro f hf i h1 h2
      rw [t1 f hf]
      have n : ∀ g j, (g = 94 ∧ j = s) ∨ (95 ≤ g ∧ g ≤ 104 ∧ j = w) → ∀ (τ : RS) v, (setI τ g j v).1 f i = τ.1 f i := fun g j hg τ v => if_neg (fun z => by omega)
      rw [n 104 w (by omega), n 103 w (by omega), n 102 w (by omega), n 101 w (by omega), n 100 w (by omega), n 99 w (by omega), n 98 w (by omega), n 97 w (by omega), n 96 w (by omega), n 95 w (by omega), n 94 s (by omega)]
    have v94 : τ.1 94 s = Int32.ofNat (b + 1) := by
      rw [t1 94 (by decide)]
      iterate 10 rw [setI_f (by decide)]
      exact setI_e
    have v95 : τ.1 95 w = 1 := by
      rw [t1 95 (by decide)]
      iterate 9 rw [setI_f (by decide)]
      exact setI_e
    have v96 : τ.1 96 w = rd &&& 1 := by
      rw [t1 96 (by decide)]
      iterate 8 rw [setI_f (by decide)]
      exact setI_e
    have v97 : τ.1 97 w = number := by
      rw [t1 97 (by decide)]
      iterate 7 rw [setI_f (by decide)]
      exact setI_e
    have v98 : τ.1 98 w = aS a 53 s := by
      rw [t1 98 (by decide)]
      iterate 6 rw [setI_f (by decide)]
      rw [setI_e]
      exact RM_7 h (by decide) hs
    have v99 : τ.1 99 w = aS a 83 s + 1 := by
      rw [t1 99 (by decide)]
      iterate 5 rw [setI_f (by decide)]
      rw [setI_e, RM_7 h (by decide) hs]
    have v100 : τ.1 100 w = l.1 2 := by
      rw [t1 100 (by decide)]
      iterate 4 rw [setI_f (by decide)]
      exact setI_e
    have v101 : τ.1 101 w = l.1 5 := by
      rw [t1 101 (by decide)]
      iterate 3 rw [setI_f (by decide)]
      exact setI_e
    have v102 : τ.1 102 w = kd := by
      rw [t1 102 (by decide)]
      iterate 2 rw [setI_f (by decide)]
      exact setI_e
    have v103 : τ.1 103 w = kk := by
      rw [t1 103 (by decide)]
      iterate 1 rw [setI_f (by decide)]
      exact setI_e
    have v104 : τ.1 104 w = ln := by
      rw [t1 104 (by decide)]
      exact setI_e
    have hS : SLh s (32 * s + b % 32) σ τ := by
      rw [hww]
      refine ⟨fun f i h1 h2 h3 => ?_, t2⟩
      by_cases q : f = 105
      · subst q
        exact t3 i (fun y => h2 ⟨rfl, y⟩)
      · exact g f q i h1 h3
    refine RM_hold (b := b) h hs hmx e2 (by omega) hS v94 ?_
    · rw [hww]
      rcases hk with ⟨k1, k2, k3⟩ | ⟨k1, k2, k3, k4, k, k5, k6, k7, k8, k9, k10, k11, k12, k13⟩
      · refine ⟨v95, ?_, v97, v98, fun y => absurd k2 y, v100, v101, hc, fun y => absurd k2 y⟩
        rw [v96, k1, show hdQ a s l number round 6 = round from rfl, k2]
        rfl
      · have e6 : hdQ a s l number round 6 = round := rfl
        refine ⟨v95, ?_, v97, v98, fun _ => ?_, v100, v101, hc, fun _ => ?_⟩
        · rw [v96, k1, e6, decide_eq_false k2]
          rfl
        · rw [v99, e6, k3]
        · refine ⟨k4, ?_⟩
          dsimp only
          rw [show (aAk a).getD (hdQ a s l number round 3).toNatClampNeg (fun _ => 0, []) = k from k5]
          refine ⟨k6, k7, v102.trans k8, v103.trans k9, v104.trans k10, k11, fun i hi => ?_⟩
          rw [t4 k1 i (by rw [k10, i_cl (by omega)]; exact hi), k13]
  have f105 : (setI (setI (setI (setI (setI (setI (setI (setI (setI (setI (setI σ 94 s (Int32.ofNat (b + 1))) 95 w (1 &&& 1)) 96 w (rd &&& 1)) 97 w number) 98 w (σ.1 53 s)) 99 w (σ.1 83 s + 1)) 100 w (l.1 2)) 101 w (l.1 5)) 102 w kd) 103 w kk) 104 w ln).1 105 = σ.1 105 := by
    funext i
    iterate 11 rw [setI_f (by decide)]
  have f2 : (setI (setI (setI (setI (setI (setI (setI (setI (setI (setI (setI σ 94 s (Int32.ofNat (b + 1))) 95 w (1 &&& 1)) 96 w (rd &&& 1)) 97 w number) 98 w (σ.1 53 s)) 99 w (σ.1 83 s + 1)) 100 w (l.1 2)) 101 w (l.1 5)) 102 w kd) 103 w kk) 104 w ln).2 = σ.2 := rfl
  show WP (m_hold_b126 F F (setI (setI (setI (setI (setI (setI (setI (setI (setI (setI (setI σ 94 s (Int32.ofNat (b + 1))) 95 w (1 &&& 1)) 96 w (rd &&& 1)) 97 w number) 98 w (σ.1 53 s)) 99 w (σ.1 83 s + 1)) 100 w (l.1 2)) 101 w (l.1 5)) 102 w kd) 103 w kk) 104 w ln) ln (Int32.ofNat w) 0) _
  generalize (setI (setI (setI (setI (setI (setI (setI (setI (setI (setI (setI σ 94 s (Int32.ofNat (b + 1))) 95 w (1 &&& 1)) 96 w (rd &&& 1)) 97 w number) 98 w (σ.1 53 s)) 99 w (σ.1 83 s + 1)) 100 w (l.1 2)) 101 w (l.1 5)) 102 w kd) 103 w kk) 104 w ln) = σ1 at key f105 f2 ⊢
  have loop : ∀ N : Nat, N ≤ 64 → ln = Int32.ofNat N → N ≤ (lBs (aAk a) l).length → (rd = 0 ∨ ∀ b ∈ lBs (aAk a) l, aLow8 b = b) → ∀ n j (τ : RS), N + 1 ≤ j + n → j ≤ N → (∀ f, f ≠ 105 → τ.1 f = σ1.1 f) → τ.2 = σ1.2 → (∀ i, ¬ i / 64 = w → τ.1 105 i = σ.1 105 i) → (∀ i, i < j → (τ.1 105 (64 * w + i)) = ((lBs (aAk a) l).getD i 0).toInt8.toInt32) → WP (m_hold_b126 F n τ ln (Int32.ofNat w) (Int32.ofNat j)) (fun τ => RM τ (aHold a s l number round) u) := by
    intro N hN eN hN2 hby n
    induction n with
    | zero => intro j τ h1 h2; omega
    | succ n ih =>
      intro j τ h1 h2 t1 t2 t3 t4
      unfold m_hold_b126
      rw [eN]
      refine WP_if (i_gei (by omega) (by omega)) (fun q => ?_) (fun q => ?_)
      · have : j = N := by omega
        subst this
        refine WP_some (key τ t1 (t2.trans f2) t3 (fun r1 i hi => ?_))
        rw [eN, i_cl (by omega)] at hi
        rw [t4 i hi]
        rcases hby with z | z
        · rw [z] at r1
          exact absurd r1 (by decide)
        · have hm : (lBs (aAk a) l).getD i 0 ∈ lBs (aAk a) l := by
            rw [List.getD_eq_getElem?_getD, List.getElem?_eq_getElem (by omega)]
            exact List.getElem_mem _
          exact z _ hm
      · rw [show (542208 : Int32) + Int32.ofNat j = Int32.ofNat (1536 * 353 + j) by
          rw [show (542208 : Int32) = Int32.ofNat (1536 * 353) from rfl, i_ad], show (64 : Int32) * Int32.ofNat w + Int32.ofNat j = Int32.ofNat (64 * w + j) from i_ma]
        refine WP_eq (m_inLetter_n (by omega)) ?_
        refine WP_st rfl 14336 (by decide +kernel) (by omega) ?_
        rw [i_s, ← eN]
        obtain ⟨_, _, _, _, _, _, _, _, _, g, _⟩ := h_inl h hl
        have hb := g j ((lBs (aAk a) l).getD j 0) (by
          rw [List.getD_eq_getElem?_getD, List.getElem?_eq_getElem (by omega)]
          rfl)
        have hb2 : rB (τ.2 16) (1536 * 353 + j) = (lBs (aAk a) l).getD j 0 := by
          rw [t2, f2]
          exact hb
        refine ih (j + 1) _ (by omega) (by omega) (fun f hf => ?_) t2 (fun i hi => ?_) (fun i hi => ?_)
        · funext i
          rw [setI_f hf]
          rw [t1 f hf]
        · rw [setI_i (fun y => hi (by omega))]
          exact t3 i hi
        · by_cases z : i = j
          · rw [z, setI_e, hb2]
          · rw [setI_i (by omega)]
            exact t4 i (by omega)
  rcases hk with ⟨k1, k2, k3⟩ | ⟨k1, k2, k3, k4, k, k5, k6, k7, k8, k9, k10, k11, k12, k13⟩
  · exact loop 0 (by omega) k3 (Nat.zero_le _) (Or.inl k1) F 0 σ1 (by omega) (Nat.le_refl _) (fun _ _ => rfl) rfl (fun i _ => by rw [f105]) (fun i hi => absurd hi (Nat.not_lt_zero _))
  · exact loop k.2.length k11 k10 (by rw [k13]; exact Nat.le_refl _) (Or.inr (by rw [k13]; exact k12)) F 0 σ1 (by omega) (Nat.zero_le _) (fun _ _ => rfl) rfl (fun i _ => by rw [f105]) (fun i hi => absurd hi (Nat.not_lt_zero _))
