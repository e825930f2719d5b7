/-! what is agreed is done -/
theorem aMcS_same {a : AA} {s : Nat} : aMcS a s (aMc a s) = a := by
  have : aU (aMc a) s (aMc a s) = aMc a := by
    funext t
    show (if t = s then aMc a s else aMc a t) = _
    by_cases q : t = s
    · rw [if_pos q, q]
    · rw [if_neg q]
  unfold aMcS
  rw [this]
  rfl
theorem aRqS_same {a : AA} {s : Nat} : aRqS a s (aRq a s) = a := by
  have : aU (aRq a) s (aRq a s) = aRq a := by
    funext t
    show (if t = s then aRq a s else aRq a t) = _
    by_cases q : t = s
    · rw [if_pos q, q]
    · rw [if_neg q]
  unfold aRqS
  rw [this]
  rfl
/-- the commands that wait wait for different entries -/
def dRq (a : AA) (s : Nat) : Prop := (aRq a s).Pairwise (fun x y => x 6 = -1 → y 6 = -1 → x 4 ≠ y 4)
/-- whether a command waits for an entry -/
def rqM (n : Int32) (q : AQ) : Bool := decide (q 6 = -1) && decide (q 4 = n)
theorem rq_slot {σ : RS} {a : AA} {u : AU} {s w : Nat} (h : RM σ a u) (hs : s < 7) (hw : w < 32) : σ.1 95 (32 * s + w) = 0 ∨ ∃ q ∈ aRq a s, rqj (u.1.2 s) q % 32 = w ∧ RRq1 (aAk a) σ (32 * s + w) q := by
  obtain ⟨b, e1, e1', e2, e3, e4, e5⟩ := h.2.2.2.2.2.2.2.2.2.2.2.2.1 s hs
  have := e5 w hw
  by_cases q : w ∈ (aRq a s).map (fun q => rqj (u.1.2 s) q % 32)
  · right
    obtain ⟨x, hx, ex⟩ := List.mem_map.mp q
    have ex : rqj (u.1.2 s) x % 32 = w := ex
    obtain ⟨y1, y2, y3, y4⟩ := e4 x hx
    rw [ex] at y4
    exact ⟨x, hx, ex, y4⟩
  · left
    rw [if_neg q] at this
    exact this
/-- no command waits for the entry any more -/
theorem ap_ph2 {F : Nat} {K0 : RS → Int32 → Option RS} {τ : RS} {a : AA} {u : AU} {s : Nat} {n e d : Int32} {Q : RS → Prop} (h : RM τ a u) (hs : s < 7) (hn : ∀ q ∈ aRq a s, rqM n q = false) (hK : WP (K0 τ (Int32.ofNat s)) Q) : ∀ f w, 33 ≤ w + f → w ≤ 32 → WP (m_apply_b72 F K0 f τ (Int32.ofNat s) n e d (Int32.ofNat (32 * s + w))) Q := by
  intro f
  induction f with
  | zero => intro w h1 h2; omega
  | succ f ih =>
    intro w h1 h2
    unfold m_apply_b72
    refine WP_if (p := 32 ≤ w) (by
      rw [show (32 : Int32) * Int32.ofNat s + 32 = Int32.ofNat (32 * s + 32) from i_ma, i_gei (by omega) (by omega)]
      omega) (fun _ => hK) (fun q => ?_)
    have next : WP (m_apply_b186 F K0 (m_apply_b72 F K0 f) τ (Int32.ofNat s) n e d (Int32.ofNat (32 * s + w))) Q := by
      unfold m_apply_b186
      rw [i_s]
      exact ih (w + 1) (by omega) (by omega)
    refine WP_ld rfl 224 (by decide +kernel) (by omega) ?_
    rcases rq_slot h hs (show w < 32 by omega) with z | ⟨x, x1, x2, x3⟩
    · rw [z]
      exact WP_if c0_eq (fun _ => next) (fun y => absurd rfl y)
    · obtain ⟨p1, p2, p3, p4, p5, p6, p7, p8, p9⟩ := x3
      rw [p1]
      refine WP_if c0_eq (fun y => absurd y (by decide)) (fun _ => ?_)
      refine WP_ld rfl 224 (by decide +kernel) (by omega) ?_
      rw [p2]
      have hx := hn x x1
      unfold rqM at hx
      by_cases h6 : x 6 = -1
      · rw [decide_eq_true h6] at hx ⊢
        refine WP_if c0_ne (fun y => absurd rfl y) (fun _ => ?_)
        refine WP_ld rfl 224 (by decide +kernel) (by omega) ?_
        rw [p3]
        refine WP_if c2_eq (fun y => ?_) (fun _ => next)
        rw [decide_eq_true y] at hx
        exact absurd hx (by decide)
      · rw [decide_eq_false h6]
        exact WP_if c0_ne (fun _ => next) (fun y => absurd (show ¬ aB (!false) = 0 by decide) y)
theorem filter_one {a : AA} {s : Nat} {n : Int32} {q : AQ} (hd : dRq a s) (hq : q ∈ aRq a s) (hm : rqM n q = true) (h0 : ∀ x ∈ aRq a s, ∀ y ∈ aRq a s, x 0 = y 0 → x = y) : (aRq a s).filter (fun x => !decide (x 0 = q 0)) = (aRq a s).filter (fun x => !(decide (x 6 = -1) && decide (x 4 = n))) ∧ (aRq a s).find? (fun x => decide (x 6 = -1) && decide (x 4 = n)) = some q := by
  unfold rqM at hm
  rw [Bool.and_eq_true_iff] at hm
  have m6 := of_decide_eq_true hm.1
  have m4 := of_decide_eq_true hm.2
  -- whoever waits for it is the one
  have uniq : ∀ x ∈ aRq a s, x 6 = -1 → x 4 = n → x = q := by
    intro x hx x6 x4
    obtain ⟨i, hi, ei⟩ := List.getElem_of_mem hx
    obtain ⟨j, hj, ej⟩ := List.getElem_of_mem hq
    have p := List.pairwise_iff_getElem.mp hd
    by_cases z : i < j
    · have := p i j hi hj z
      rw [ei, ej] at this
      exact absurd (x4.trans m4.symm) (this x6 m6)
    · by_cases z2 : j < i
      · have := p j i hj hi z2
        rw [ei, ej] at this
        exact absurd (m4.trans x4.symm) (this m6 x6)
      · have : i = j := by omega
        subst this
        rw [← ei, ← ej]
  refine ⟨?_, ?_⟩
  · apply List.filter_congr
    intro x hx
    congr 1
    by_cases z : x 0 = q 0
    · have := h0 x hx q hq z
      rw [this, m6, m4, decide_eq_true rfl, decide_eq_true rfl, decide_eq_true rfl]
      rfl
    · rw [decide_eq_false z]
      by_cases z6 : x 6 = -1
      · by_cases z4 : x 4 = n
        · exact absurd (by rw [uniq x hx z6 z4]) z
        · rw [decide_eq_false z4, Bool.and_false]
      · rw [decide_eq_false z6, Bool.false_and]
  · cases e : (aRq a s).find? (fun x => decide (x 6 = -1) && decide (x 4 = n)) with
    | none =>
      have := List.find?_eq_none.mp e q hq
      rw [m6, m4, decide_eq_true rfl, decide_eq_true rfl] at this
      exact absurd rfl this
    | some y =>
      have hy := List.mem_of_find?_eq_some e
      have hp := List.find?_some e
      rw [Bool.and_eq_true_iff] at hp
      rw [uniq y hy (of_decide_eq_true hp.1) (of_decide_eq_true hp.2)]
theorem rq_inj {σ : RS} {a : AA} {u : AU} {s : Nat} (h : RM σ a u) (hs : s < 7) : ∀ x ∈ aRq a s, ∀ y ∈ aRq a s, x 0 = y 0 → x = y := by
  obtain ⟨b, e1, e1', e2, e3, e4, e5⟩ := h.2.2.2.2.2.2.2.2.2.2.2.2.1 s hs
  intro x hx y hy e
  obtain ⟨i, hi, ei⟩ := List.getElem_of_mem hx
  obtain ⟨j, hj, ej⟩ := List.getElem_of_mem hy
  have p := List.pairwise_iff_getElem.mp (List.pairwise_map.mp e3)
  have er : rqj (u.1.2 s) x = rqj (u.1.2 s) y := by unfold rqj; rw [e]
  by_cases z : i < j
  · have := p i j hi hj z
    rw [ei, ej] at this
    omega
  · by_cases z2 : j < i
    · have := p j i hj hi z2
      rw [ei, ej] at this
      omega
    · have : i = j := by omega
      subst this
      rw [← ei, ← ej]
/-- what an entry's doing leaves to be said -/
def apR (a : AA) (s : Nat) (n : Int32) : AM × Int32 × Int32 × List Int32 := if (aEnt a s n).2.1 = 2 then aPerf (aAk a) (aMc a s) n (aEnt a s n) else (aMc a s, 0, 0, [])
theorem aApply1_e {a : AA} {s : Nat} {n : Int32} : aApply1 a s n = (let a2 := aRqS (aMcS (aI a 76 s n) s (apR a s n).1) s ((aRq a s).filter (fun q => !(decide (q 6 = -1) && decide (q 4 = n))))
  match (aRq a s).find? (fun q => decide (q 6 = -1) && decide (q 4 = n)) with
  | none => a2
  | some q => if (aEnt a s n).2.1 = 2 ∧ (aEnt a s n).1 = q 5 ∧ ((apR a s n).2.1 = 0 ∨ (apR a s n).2.1 = 1) then aReply a2 s q (if (apR a s n).2.1 = 0 then 0 else 2) (if (apR a s n).2.1 = 0 then (apR a s n).2.2.1 else 0) (if (apR a s n).2.1 = 0 then (apR a s n).2.2.2 else []) else a2) := rfl
theorem AFr_apply1 {a : AA} {s : Nat} {n : Int32} : AFr [76, 2, 21, 22] [0, 1, 3, 9] a (aApply1 a s n) := by
  rw [aApply1_e]
  dsimp only
  have h2 : AFr [76] [3, 9] a (aRqS (aMcS (aI a 76 s n) s (apR a s n).1) s ((aRq a s).filter (fun q => !(decide (q 6 = -1) && decide (q 4 = n))))) := AFr_w (AFr_t (AFr_t AFr_I AFr_mc) AFr_rq) (by decide) (by decide)
  split
  · exact AFr_w h2 (by decide) (by decide)
  · split
    · exact AFr_w (AFr_t h2 AFr_reply) (by decide) (by decide)
    · exact AFr_w h2 (by decide) (by decide)
theorem ap1_rq {a : AA} {s : Nat} {n : Int32} : aRq (aApply1 a s n) s = (aRq a s).filter (fun q => !(decide (q 6 = -1) && decide (q 4 = n))) := by
  rw [aApply1_e]
  dsimp only
  split
  · exact if_pos rfl
  · split
    · rw [AFr_reply.2.2.2.2.2.2.2.2.2.2.1 (by decide)]
      exact if_pos rfl
    · exact if_pos rfl
/-- the entry is done and said -/
theorem ap_slots {F : Nat} {K0 : RS → Int32 → Option RS} {τ : RS} {a b : AA} {u : AU} {s : Nat} {n : Int32} {d : Bool} {Q : RS → Prop} (hF : 400 ≤ F) (hs : s < 7) (hb : RM τ b u) (eb : b = aMcS (aI a 76 s n) s (apR a s n).1) (hd : dRq a s) (hdd : d = decide ((aEnt a s n).2.1 = 2)) (hent : τ.1 59 (rLp s n) = (aEnt a s n).1)
    (h120 : d = true → τ.1 120 0 = (apR a s n).2.1 ∧ ((apR a s n).2.1 = 0 → τ.1 123 0 = (apR a s n).2.2.1 ∧ An τ (apR a s n).2.2.2)) (hbs : ∀ x ∈ (apR a s n).2.2.2, aLow8 x = x)
    (hK : ∀ τ', RM τ' (aApply1 a s n) u → WP (K0 τ' (Int32.ofNat s)) Q) : WP (m_apply_b66 F K0 τ (Int32.ofNat s) n (Int32.ofNat (rLp s n)) (aB d)) Q := by
  have erq : aRq b s = aRq a s := by rw [eb]; rfl
  have hp := rLp_lt (n := n) hs
  have hinj := rq_inj hb hs
  rw [erq] at hinj
  unfold m_apply_b66
  rw [show (32 : Int32) * Int32.ofNat s = Int32.ofNat (32 * s + 0) from i_mc]
  by_cases hex : ∃ q ∈ aRq a s, rqM n q = true
  · obtain ⟨q, hq, hm⟩ := hex
    obtain ⟨fe, ff⟩ := filter_one hd hq hm hinj
    have hm' := hm
    unfold rqM at hm'
    rw [Bool.and_eq_true_iff] at hm'
    have m6 := of_decide_eq_true hm'.1
    have m4 := of_decide_eq_true hm'.2
    have e1 : aApply1 a s n = (if (aEnt a s n).2.1 = 2 ∧ (aEnt a s n).1 = q 5 ∧ ((apR a s n).2.1 = 0 ∨ (apR a s n).2.1 = 1) then aReply (aRqS b s ((aRq b s).filter (fun x => !decide (x 0 = q 0)))) s q (if (apR a s n).2.1 = 0 then 0 else 2) (if (apR a s n).2.1 = 0 then (apR a s n).2.2.1 else 0) (if (apR a s n).2.1 = 0 then (apR a s n).2.2.2 else []) else aRqS b s ((aRq b s).filter (fun x => !decide (x 0 = q 0)))) := by
      rw [aApply1_e]
      dsimp only
      rw [ff, erq, fe, eb]
    have hnone : ∀ (c : AA), aRq c s = (aRq b s).filter (fun x => !decide (x 0 = q 0)) → ∀ x ∈ aRq c s, rqM n x = false := by
      intro c hc x hx
      rw [hc, erq, fe] at hx
      have := (List.mem_filter.mp hx).2
      unfold rqM
      revert this
      cases (decide (x 6 = -1) && decide (x 4 = n)) with
      | false => exact fun _ => rfl
      | true => exact fun y => nomatch y
    have key : ∀ f w, 34 ≤ w + f → w ≤ rqj (u.1.2 s) q % 32 → WP (m_apply_b72 F K0 f τ (Int32.ofNat s) n (Int32.ofNat (rLp s n)) (aB d) (Int32.ofNat (32 * s + w))) Q := by
      have hql := Nat.mod_lt (rqj (u.1.2 s) q) (show 0 < 32 by decide)
      intro f
      induction f with
      | zero => intro w h1 h2; omega
      | succ f ih =>
        intro w h1 h2
        unfold m_apply_b72
        refine WP_if (p := 32 ≤ w) (by
          rw [show (32 : Int32) * Int32.ofNat s + 32 = Int32.ofNat (32 * s + 32) from i_ma, i_gei (by omega) (by omega)]
          omega) (fun y => by omega) (fun _ => ?_)
        have hwl : 32 * s + w < 224 := by omega
        refine WP_ld rfl 224 (by decide +kernel) hwl ?_
        by_cases hwq : w = rqj (u.1.2 s) q % 32
        · -- this one
          obtain ⟨bb, g1, g1', g2, g3, g4, g5⟩ := hb.2.2.2.2.2.2.2.2.2.2.2.2.1 s hs
          obtain ⟨y1, y2, y3, y4⟩ := g4 q (by rw [erq]; exact hq)
          rw [← hwq] at y4
          obtain ⟨p1, p2, p3, p4, p5, p6, p7, p8, p9⟩ := y4
          rw [p1]
          refine WP_if c0_eq (fun y => absurd y (by decide)) (fun _ => ?_)
          refine WP_ld rfl 224 (by decide +kernel) hwl ?_
          rw [p2, decide_eq_true m6]
          refine WP_if c0_ne (fun y => absurd rfl y) (fun _ => ?_)
          refine WP_ld rfl 224 (by decide +kernel) hwl ?_
          rw [p3]
          refine WP_if c2_eq (fun _ => ?_) (fun y => absurd m4 y)
          refine WP_st rfl 224 (by decide +kernel) hwl ?_
          have hdel := RM_rq1 hb hs (q := q) (by rw [erq]; exact hq)
          rw [← hwq] at hdel
          have h120' : (setI τ 95 (32 * s + w) (0 &&& 1)).1 120 0 = τ.1 120 0 := rfl
          have h123' : (setI τ 95 (32 * s + w) (0 &&& 1)).1 123 0 = τ.1 123 0 := rfl
          have hAn : ∀ l, An τ l → An (setI τ 95 (32 * s + w) (0 &&& 1)) l := fun l h => h
          have e59 : (setI τ 95 (32 * s + w) (0 &&& 1)).1 59 (rLp s n) = (aEnt a s n).1 := hent
          have e98 : (setI τ 95 (32 * s + w) (0 &&& 1)).1 98 (32 * s + w) = q 5 := p4
          have e100 : (setI τ 95 (32 * s + w) (0 &&& 1)).1 100 (32 * s + w) = q 1 := p6
          have e101 : (setI τ 95 (32 * s + w) (0 &&& 1)).1 101 (32 * s + w) = q 2 := p7
          have hdel : RM (setI τ 95 (32 * s + w) (0 &&& 1)) (aRqS b s ((aRq b s).filter (fun x => !decide (x 0 = q 0)))) u := hdel
          generalize setI τ 95 (32 * s + w) (0 &&& 1) = τ1 at hdel h120' h123' hAn e59 e98 e100 e101
          -- the rest of the slots
          have rest : ∀ (τ' : RS) (c : AA), RM τ' c u → aRq c s = (aRq b s).filter (fun x => !decide (x 0 = q 0)) → c = aApply1 a s n → WP (m_apply_b186 F K0 (m_apply_b72 F K0 f) τ' (Int32.ofNat s) n (Int32.ofNat (rLp s n)) (aB d) (Int32.ofNat (32 * s + w))) Q := by
            intro τ' c hc hcr hca
            unfold m_apply_b186
            rw [i_s]
            exact ap_ph2 hc hs (hnone c hcr) (hK τ' (hca ▸ hc)) f (w + 1) (by omega) (by omega)
          have done : ¬ ((aEnt a s n).2.1 = 2 ∧ (aEnt a s n).1 = q 5 ∧ ((apR a s n).2.1 = 0 ∨ (apR a s n).2.1 = 1)) → WP (m_apply_b186 F K0 (m_apply_b72 F K0 f) τ1 (Int32.ofNat s) n (Int32.ofNat (rLp s n)) (aB d) (Int32.ofNat (32 * s + w))) Q := by
            intro hno
            refine rest τ1 _ hdel (if_pos rfl) ?_
            rw [e1, if_neg hno]
          cases hd2 : d with
          | false =>
            rw [hd2] at hdd rest done
            refine WP_if c0_eq (fun _ => done (fun y => of_decide_eq_false hdd.symm y.1)) (fun y => absurd rfl y)
          | true =>
            rw [hd2] at hdd rest done
            obtain ⟨k120, k123⟩ := h120 hd2
            have k2 := of_decide_eq_true hdd.symm
            refine WP_if c0_eq (fun y => absurd y (by decide)) (fun _ => ?_)
            refine WP_ld rfl 3584 (by decide +kernel) hp ?_
            rw [e59]
            refine WP_ld rfl 224 (by decide +kernel) hwl ?_
            rw [e98]
            refine WP_if c2_eq (fun y5 => ?_) (fun y5 => done (fun y => y5 y.2.1))
            rw [h120', k120]
            by_cases hr0 : (apR a s n).2.1 = 0
            · refine WP_if c0_ne (fun y => absurd hr0 y) (fun _ => ?_)
              obtain ⟨v123, vA⟩ := k123 hr0
              rw [h123', v123]
              refine WP_call (WP_and (M_postReply (q := q) (bs := (apR a s n).2.2.2) hF hdel hs hwl e100 e101 p8 (fun _ => hAn _ vA) (fun y => absurd rfl y) hbs) (fun τ2 => P0_postReply (h120'.trans (k120.trans hr0)) τ2)) (fun τ2 hh2 => ?_)
              obtain ⟨h2', f2⟩ := hh2
              have hca : aReply (aRqS b s ((aRq b s).filter (fun x => !decide (x 0 = q 0)))) s q 0 (apR a s n).2.2.1 (apR a s n).2.2.2 = aApply1 a s n := by
                rw [e1, if_pos ⟨k2, y5, Or.inl hr0⟩, if_pos hr0, if_pos hr0, if_pos hr0]
              have hrest := rest τ2 _ h2' (by
                rw [AFr_reply.2.2.2.2.2.2.2.2.2.2.1 (by decide)]
                exact if_pos rfl) hca
              unfold m_apply_b169
              refine WP_if c2_ne (fun _ => hrest) (fun y1 => ?_)
              -- it has come to 1 meanwhile: then a second reply; this does not happen
              exact absurd (f2.symm.trans (Classical.not_not.mp y1)) (by decide)
            · refine WP_if c0_ne (fun _ => ?_) (fun y => absurd hr0 (fun z => y z))
              unfold m_apply_b169
              rw [h120', k120]
              refine WP_if c2_ne (fun y1 => done (fun y => y.2.2.elim hr0 y1)) (fun y1 => ?_)
              have hr1 := Classical.not_not.mp y1
              refine WP_call (M_postReply (q := q) (kind := 2) (place := 0) (bs := []) hF hdel hs hwl e100 e101 p8 (fun y => absurd y (by decide)) (fun _ => rfl) (fun x hx => absurd hx List.not_mem_nil)) (fun τ2 h2' => ?_)
              have hca : aReply (aRqS b s ((aRq b s).filter (fun x => !decide (x 0 = q 0)))) s q 2 0 [] = aApply1 a s n := by
                rw [e1, if_pos ⟨k2, y5, Or.inr hr1⟩, if_neg hr0, if_neg hr0, if_neg hr0]
              exact rest τ2 _ h2' (by
                rw [AFr_reply.2.2.2.2.2.2.2.2.2.2.1 (by decide)]
                exact if_pos rfl) hca
        · have next : WP (m_apply_b186 F K0 (m_apply_b72 F K0 f) τ (Int32.ofNat s) n (Int32.ofNat (rLp s n)) (aB d) (Int32.ofNat (32 * s + w))) Q := by
            unfold m_apply_b186
            rw [i_s]
            exact ih (w + 1) (by omega) (by omega)
          rcases rq_slot hb hs (show w < 32 by omega) with z | ⟨x, x1, x2, x3⟩
          · rw [z]
            exact WP_if c0_eq (fun _ => next) (fun y => absurd rfl y)
          · rw [erq] at x1
            obtain ⟨p1, p2, p3, p4, p5, p6, p7, p8, p9⟩ := x3
            rw [p1]
            refine WP_if c0_eq (fun y => absurd y (by decide)) (fun _ => ?_)
            refine WP_ld rfl 224 (by decide +kernel) hwl ?_
            rw [p2]
            by_cases h6 : x 6 = -1
            · rw [decide_eq_true h6]
              refine WP_if c0_ne (fun y => absurd rfl y) (fun _ => ?_)
              refine WP_ld rfl 224 (by decide +kernel) hwl ?_
              rw [p3]
              refine WP_if c2_eq (fun y => ?_) (fun _ => next)
              have hxm : rqM n x = true := by
                unfold rqM
                rw [decide_eq_true h6, decide_eq_true y]
                rfl
              have := (filter_one hd x1 hxm hinj).2
              rw [ff] at this
              have := Option.some.inj this
              rw [← this] at x2
              exact absurd x2.symm hwq
            · rw [decide_eq_false h6]
              exact WP_if c0_ne (fun _ => next) (fun y => absurd (show ¬ aB (!false) = 0 by decide) y)
    exact key F 0 (by omega) (Nat.zero_le _)
  · have hn : ∀ q ∈ aRq a s, rqM n q = false := fun q hq => by
      cases e : rqM n q with
      | false => rfl
      | true => exact absurd ⟨q, hq, e⟩ hex
    have e1 : aApply1 a s n = b := by
      rw [aApply1_e]
      dsimp only
      have f1 : (aRq a s).find? (fun q => decide (q 6 = -1) && decide (q 4 = n)) = none := List.find?_eq_none.mpr (fun x hx => by
        have := hn x hx
        unfold rqM at this
        rw [this]
        decide)
      have f2 : (aRq a s).filter (fun q => !(decide (q 6 = -1) && decide (q 4 = n))) = aRq a s := List.filter_eq_self.mpr (fun x hx => by
        have := hn x hx
        unfold rqM at this
        rw [this]
        rfl)
      rw [f1, f2, ← eb, ← erq]
      exact aRqS_same
    exact ap_ph2 hb hs (by rw [erq]; exact hn) (hK τ (e1.symm ▸ hb)) F 0 (by omega) (Nat.zero_le _)
