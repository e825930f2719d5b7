/-! send, sendAll -/
/-- a number above the base and not above what follows the last -/
theorem aB_of {a : AA} {s : Nat} {x : Int32} (w : WLg a s) (h1 : ¬ x ≤ aBase a s) (h2 : x ≤ aLast a s + 1) : ∃ j, x = aBase a s + 1 + Int32.ofNat j ∧ j ≤ (aLg a s).length ∧ x.toInt = (aBase a s).toInt + 1 + j := by
  have w' := w
  obtain ⟨w1, w2, w3, w4⟩ := w'
  rw [Int32.le_iff_toInt_le] at h1 h2
  rw [i_succ (by omega)] at h2
  have hj : (x.toInt - (aBase a s).toInt - 1).toNat ≤ (aLg a s).length := by omega
  refine ⟨(x.toInt - (aBase a s).toInt - 1).toNat, ?_, hj, by omega⟩
  rw [← Int32.toInt_inj, aB_n w hj]
  omega
theorem aMany_n {a : AA} {s j : Nat} {x : Int32} (w : WLg a s) (hx : x.toInt = (aBase a s).toInt + 1 + j) (hj : j < (aLg a s).length) : ∃ N, aMany a s x = Int32.ofNat N ∧ 1 ≤ N ∧ N ≤ 6 ∧ j + N ≤ (aLg a s).length ∧ (aLast a s - x + 1).toInt = (aLg a s).length - j := by
  obtain ⟨w1, w2, w3, w4⟩ := w
  have e1 : (aLast a s - x).toInt = (aLg a s).length - j - 1 := by
    rw [i_subI (by omega) (by omega)]
    omega
  have e : (aLast a s - x + 1).toInt = (aLg a s).length - j := by
    rw [i_succ (by omega), e1]
    omega
  unfold aMany aMin
  by_cases q : (6 : Int32) ≤ aLast a s - x + 1
  · rw [if_pos q]
    rw [Int32.le_iff_toInt_le, e, show (6 : Int32).toInt = 6 by decide] at q
    exact ⟨6, rfl, by omega, by omega, by omega, e⟩
  · rw [if_neg q]
    rw [Int32.le_iff_toInt_le, e, show (6 : Int32).toInt = 6 by decide] at q
    refine ⟨(aLg a s).length - j, ?_, by omega, by omega, by omega, e⟩
    rw [← Int32.toInt_inj, e, Int32.toInt_ofNat_of_lt (by omega)]
    omega
/-- how the sending ends: a letter without entries if none went and it beats -/
def aFin (s p : Nat) (beats some0 : Bool) (r : AA × Bool) : AA := if !(some0 || r.2) && beats then A_post r.1 s (aEntries r.1 s p (aS r.1 86 (7 * s + p)) 0) else r.1
theorem M_send354 {F : Nat} {σ : RS} {a : AA} {u : AU} {s p : Nat} {bt sm : Bool} (hF : 400 ≤ F) (h : RM σ a u) (hs : s < 7) (hp : p < 7) (h1 : ¬ aS a 86 (7 * s + p) ≤ aBase a s) (h2 : aS a 86 (7 * s + p) ≤ aLast a s + 1) : WP (m_send_b354 F σ (Int32.ofNat s) (Int32.ofNat p) (aB bt) (Int32.ofNat (7 * s + p)) (aB sm)) (fun σ' => RM σ' (aFin s p bt sm (a, false)) u) := by
  unfold m_send_b354 m_send_b363 aFin
  rw [Bool.or_false]
  refine WP_if c0_ne (fun q => ?_) (fun q => ?_)
  · have : sm = true := by revert q; cases sm <;> decide
    rw [this]
    exact WP_some h
  · have : sm = false := by revert q; cases sm <;> decide
    rw [this]
    refine WP_if c0_ne (fun q2 => ?_) (fun q2 => ?_)
    · have : bt = true := by revert q2; cases bt <;> decide
      rw [this]
      obtain ⟨j, e, hj, _⟩ := aB_of (RM_wl h hs) h1 h2
      refine WP_r49 h (by decide) (by omega) ?_
      show WP ((m_writeEntries F σ (Int32.ofNat s) (aS a 86 (7 * s + p)) (Int32.ofNat 0)).bind _) (fun σ' => RM σ' (A_post a s (aEntries a s p (aS a 86 (7 * s + p)) 0)) u)
      rw [e]
      refine WP_call (M_writeEntries (p := p) hF h hs hp (by omega) (by omega)) (fun τ hτ => ?_)
      exact WP_call (M_postM hF hτ.1 hs hτ.2 rfl rfl) (fun τ2 h2 => WP_some h2)
    · have : bt = false := by revert q2; cases bt <;> decide
      rw [this]
      exact WP_some h
theorem M_stream {F : Nat} {u : AU} {s p : Nat} {bt : Bool} (hF : 400 ≤ F) (hs : s < 7) (hp : p < 7) (hz : u.2 (7 + s)) : ∀ (m n : Nat) (τ : RS) (b : AA) (sm : Bool), m + 1 ≤ n → RM τ b u → aS b 73 s = 3 → ¬ aS b 86 (7 * s + p) ≤ aBase b s → 4 ≤ (aS b 88 (7 * s + p)).toInt + m →
    WP (m_send_b227 F n τ (Int32.ofNat s) (Int32.ofNat p) (aB bt) (Int32.ofNat (7 * s + p)) (aB sm)) (fun σ' => RM σ' (aFin s p bt sm (aStream s p m b)) u) := by
  intro m
  induction m with
  | zero =>
    intro n τ b sm hn h hr h1 h4
    obtain ⟨n, rfl⟩ : ∃ k, n = k + 1 := ⟨n - 1, by omega⟩
    have wl := h.2.2.2.2.2.2.2.2.2.2.2.2.2.2.2.2.2.2.2.2.2.2.2 s hs hz hr p hp
    unfold m_send_b227
    show WP _ (fun σ' => RM σ' (aFin s p bt sm (b, false)) u)
    have fin := M_send354 (bt := bt) (sm := sm) hF h hs hp h1 wl.2.1
    refine WP_r49 h (by decide) (by omega) ?_
    refine WP_r7 h (by decide) hs ?_
    refine WP_if c2_gt (fun _ => fin) (fun _ => ?_)
    refine WP_r49 h (by decide) (by omega) ?_
    refine WP_r49 h (by decide) (by omega) ?_
    have h4' : ∀ v : Int32, v.toInt ≤ 4 → v ≤ aS b 88 (7 * s + p) := by
      intro v hv
      rw [Int32.le_iff_toInt_le]
      omega
    refine WP_if c0_eq (fun _ => ?_) (fun _ => ?_)
    · unfold m_send_b265
      exact WP_if c2_ge (fun _ => fin) (fun q => absurd (h4' 4 (by decide)) q)
    · unfold m_send_b265
      exact WP_if c2_ge (fun _ => fin) (fun q => absurd (h4' 1 (by decide)) q)
  | succ m ih =>
    intro n τ b sm hn h hr h1 h4
    obtain ⟨n, rfl⟩ : ∃ k, n = k + 1 := ⟨n - 1, by omega⟩
    have wl := h.2.2.2.2.2.2.2.2.2.2.2.2.2.2.2.2.2.2.2.2.2.2.2 s hs hz hr p hp
    have wg := RM_wl h hs
    have fin := M_send354 (bt := bt) (sm := sm) hF h hs hp h1 wl.2.1
    have body : aS b 86 (7 * s + p) ≤ aLast b s → (aS b 88 (7 * s + p)).toInt < 4 → aStream s p (m + 1) b = (let mm := aMany b s (aS b 86 (7 * s + p))
      let a1 := aAdd (aAdd b 88 (7 * s + p) 1) 86 (7 * s + p) mm
      let r := aStream s p m (A_post a1 s (aEntries a1 s p (aS b 86 (7 * s + p)) mm.toNatClampNeg))
      (r.1, true)) → ∀ lim : Int32, ¬ lim ≤ aS b 88 (7 * s + p) → WP (m_send_b265 F (m_send_b227 F n) τ (aS b 88 (7 * s + p)) lim (Int32.ofNat s) (Int32.ofNat p) (aB bt) (Int32.ofNat (7 * s + p)) (aB sm)) (fun σ' => RM σ' (aFin s p bt sm (aStream s p (m + 1) b)) u) := by
      intro q1 q2 eq lim hlim
      rw [eq]
      dsimp only
      obtain ⟨j, e, hj, ex⟩ := aB_of wg h1 wl.2.1
      have hj2 : j < (aLg b s).length := by
        rw [Int32.le_iff_toInt_le] at q1
        obtain ⟨w1, w2, w3, w4⟩ := wg
        omega
      obtain ⟨N, eN, N1, N2, N3, eL⟩ := aMany_n wg ex hj2
      have b300 : WP (m_send_b300 F (m_send_b227 F n) τ (aMany b s (aS b 86 (7 * s + p))) (Int32.ofNat s) (Int32.ofNat p) (aB bt) (Int32.ofNat (7 * s + p))) (fun σ' => RM σ' (aFin s p bt sm ((aStream s p m (A_post (aAdd (aAdd b 88 (7 * s + p) 1) 86 (7 * s + p) (aMany b s (aS b 86 (7 * s + p)))) s (aEntries (aAdd (aAdd b 88 (7 * s + p) 1) 86 (7 * s + p) (aMany b s (aS b 86 (7 * s + p)))) s p (aS b 86 (7 * s + p)) (aMany b s (aS b 86 (7 * s + p))).toNatClampNeg))).1, true)) u) := by
        rw [eN, i_cl (by omega)]
        unfold m_send_b300
        refine WP_r49 h (by decide) (by omega) ?_
        have h88 := i_nat wl.2.2.2.2.2
        refine WP_wld h hs hp (Or.inr (Or.inr (Or.inl rfl))) (fun _ _ _ => ⟨fun z => absurd z (by decide), fun z => absurd z (by decide), fun z => absurd z (by decide), fun _ => ?_⟩) (fun σ1 h1' => ?_)
        · rw [Int32.le_iff_toInt_le, i_succ (by omega), i_0]
          have := wl.2.2.2.2.2
          rw [Int32.le_iff_toInt_le, i_0] at this
          omega
        · refine WP_r49 h1' (by decide) (by omega) ?_
          have e86 : aS (aI b 88 (7 * s + p) (aS b 88 (7 * s + p) + 1)) 86 (7 * s + p) = aS b 86 (7 * s + p) := rfl
          rw [e86]
          have exN : (aS b 86 (7 * s + p) + Int32.ofNat N).toInt = (aBase b s).toInt + 1 + j + N := by
            obtain ⟨w1, w2, w3, w4⟩ := wg
            rw [i_addI (by rw [Int32.toInt_ofNat_of_lt (by omega)]; omega) (by rw [Int32.toInt_ofNat_of_lt (by omega)]; omega), Int32.toInt_ofNat_of_lt (by omega), ex]
          refine WP_wld h1' hs hp (Or.inl rfl) (fun _ _ _ => ⟨fun _ => ⟨?_, ?_⟩, fun z => absurd z (by decide), fun z => absurd z (by decide), fun z => absurd z (by decide)⟩) (fun σ2 h2 => ?_)
          · obtain ⟨w1, w2, w3, w4⟩ := wg
            rw [Int32.le_iff_toInt_le, exN, i_1]
            omega
          · obtain ⟨w1, w2, w3, w4⟩ := wg
            show aS b 86 (7 * s + p) + Int32.ofNat N ≤ aLast b s + 1
            rw [Int32.le_iff_toInt_le, exN, i_succ (by omega)]
            omega
          · refine WP_r49 h2 (by decide) (by omega) ?_
            have e86 : aS (aI (aI b 88 (7 * s + p) (aS b 88 (7 * s + p) + 1)) 86 (7 * s + p) (aS b 86 (7 * s + p) + Int32.ofNat N)) 86 (7 * s + p) = aS b 86 (7 * s + p) + Int32.ofNat N := if_pos ⟨rfl, rfl⟩
            rw [e86, Int32.add_sub_cancel, e]
            have key0 : WP (m_writeEntries F σ2 (Int32.ofNat s) (aBase b s + 1 + Int32.ofNat j) (Int32.ofNat N)) (fun τ => RM τ (aI (aI b 88 (7 * s + p) (aS b 88 (7 * s + p) + 1)) 86 (7 * s + p) (aS b 86 (7 * s + p) + Int32.ofNat N)) u ∧ Mad (aAk b) τ (aEntries (aI (aI b 88 (7 * s + p) (aS b 88 (7 * s + p) + 1)) 86 (7 * s + p) (aS b 86 (7 * s + p) + Int32.ofNat N)) s p (aBase b s + 1 + Int32.ofNat j) N)) := M_writeEntries (p := p) (j := j) (N := N) hF h2 hs hp N2 N3
            refine WP_call key0 (fun τ3 h3 => ?_)
            refine WP_call (M_postM hF h3.1 hs h3.2 rfl rfl) (fun τ4 h4' => ?_)
            have fr : AFr [2, 21, 22, 88, 86] [0, 1] b (A_post (aI (aI b 88 (7 * s + p) (aS b 88 (7 * s + p) + 1)) 86 (7 * s + p) (aS b 86 (7 * s + p) + Int32.ofNat N)) s (aEntries (aI (aI b 88 (7 * s + p) (aS b 88 (7 * s + p) + 1)) 86 (7 * s + p) (aS b 86 (7 * s + p) + Int32.ofNat N)) s p (aBase b s + 1 + Int32.ofNat j) N)) := AFr_w (AFr_t (AFr_t AFr_I AFr_I) AFr_post) (by decide) (by decide)
            have fp := @AFr_post (aI (aI b 88 (7 * s + p) (aS b 88 (7 * s + p) + 1)) 86 (7 * s + p) (aS b 86 (7 * s + p) + Int32.ofNat N)) s (aEntries (aI (aI b 88 (7 * s + p) (aS b 88 (7 * s + p) + 1)) 86 (7 * s + p) (aS b 86 (7 * s + p) + Int32.ofNat N)) s p (aBase b s + 1 + Int32.ofNat j) N)
            have key := ih n τ4 _ true (by omega) h4' (by rw [fr.1 73 (by decide)]; exact hr) (by
              rw [fp.1 86 (by decide), e86]
              have e55 := fr.1 55 (by decide) s
              intro z
              have z : aS b 86 (7 * s + p) + Int32.ofNat N ≤ aBase b s := by
                rw [show aBase b s = aS b 55 s from rfl, ← e55]
                exact z
              rw [Int32.le_iff_toInt_le, exN] at z
              omega) (by
              rw [fp.1 88 (by decide)]
              have : aS (aI (aI b 88 (7 * s + p) (aS b 88 (7 * s + p) + 1)) 86 (7 * s + p) (aS b 86 (7 * s + p) + Int32.ofNat N)) 88 (7 * s + p) = aS b 88 (7 * s + p) + 1 := by
                rw [aS_If (by decide)]
                exact if_pos ⟨rfl, rfl⟩
              rw [this, i_succ (by omega)]
              omega)
            refine WP_mono key (fun σ' hσ => ?_)
            unfold aFin at hσ ⊢
            rw [Bool.true_or] at hσ
            rw [Bool.or_true, ← e]
            rw [← e] at hσ
            exact hσ
      unfold m_send_b265
      refine WP_if c2_ge (fun q => absurd q hlim) (fun _ => ?_)
      refine WP_r7 h (by decide) hs ?_
      refine WP_r49 h (by decide) (by omega) ?_
      have em : aMany b s (aS b 86 (7 * s + p)) = aMin 6 (aS b 56 s - aS b 86 (7 * s + p) + 1) := rfl
      refine WP_if c2_le (fun q => ?_) (fun q => ?_)
      · have : aS b 56 s - aS b 86 (7 * s + p) + 1 = aMany b s (aS b 86 (7 * s + p)) := by
          rw [em]
          unfold aMin
          by_cases q6 : (6 : Int32) ≤ aS b 56 s - aS b 86 (7 * s + p) + 1
          · rw [if_pos q6]
            rw [Int32.le_iff_toInt_le] at q q6
            rw [← Int32.toInt_inj]
            omega
          · rw [if_neg q6]
        rw [this]
        exact b300
      · have : (6 : Int32) = aMany b s (aS b 86 (7 * s + p)) := by
          rw [em]
          unfold aMin
          rw [if_pos]
          rw [Int32.le_iff_toInt_le] at q ⊢
          omega
        rw [this]
        exact b300
    unfold m_send_b227
    refine WP_r49 h (by decide) (by omega) ?_
    refine WP_r7 h (by decide) hs ?_
    refine WP_if c2_gt (fun q => ?_) (fun q => ?_)
    · have : aStream s p (m + 1) b = (b, false) := by
        unfold aStream
        dsimp only
        rw [if_neg (fun z => i_nle.mpr q z.1)]
      rw [this]
      exact fin
    · have q := i_nlt.mp q
      refine WP_r49 h (by decide) (by omega) ?_
      refine WP_r49 h (by decide) (by omega) ?_
      have go : ∀ lim : Int32, lim.toInt ≤ 4 → (if aS b 89 (7 * s + p) = 0 then (4 : Int32) else 1) = lim → WP (m_send_b265 F (m_send_b227 F n) τ (aS b 88 (7 * s + p)) lim (Int32.ofNat s) (Int32.ofNat p) (aB bt) (Int32.ofNat (7 * s + p)) (aB sm)) (fun σ' => RM σ' (aFin s p bt sm (aStream s p (m + 1) b)) u) := by
        intro lim hlim el
        by_cases q2 : lim ≤ aS b 88 (7 * s + p)
        · have : aStream s p (m + 1) b = (b, false) := by
            unfold aStream
            dsimp only
            rw [if_neg (fun z => by rw [el] at z; exact i_nlt.mpr q2 z.2)]
          rw [this]
          unfold m_send_b265
          exact WP_if c2_ge (fun _ => fin) (fun y => absurd q2 y)
        · refine body q ?_ ?_ lim q2
          · rw [Int32.le_iff_toInt_le] at q2
            omega
          · exact if_pos ⟨q, by rw [el]; exact i_nle.mp q2⟩
      exact WP_if c0_eq (fun y => go 4 (by decide) (if_pos y)) (fun y => go 1 (by decide) (if_neg y))
theorem M_send {F : Nat} {σ : RS} {a : AA} {u : AU} {s p : Nat} {bt : Bool} (hF : 400 ≤ F) (h : RM σ a u) (hs : s < 7) (hp : p < 7) (hz : u.2 (7 + s)) (hr : aS a 73 s = 3) : WP (m_send F σ (Int32.ofNat s) (Int32.ofNat p) (aB bt)) (fun σ' => RM σ' (A_send a s p bt) u) := by
  have wl := h.2.2.2.2.2.2.2.2.2.2.2.2.2.2.2.2.2.2.2.2.2.2.2 s hs hz hr p hp
  unfold m_send m_send_b0 A_send
  dsimp only
  rw [i_7]
  refine WP_r49 h (by decide) (by omega) ?_
  refine WP_r7 h (by decide) hs ?_
  refine WP_if c2_gt (fun q => ?_) (fun q => ?_)
  · have q' : ¬ aS a 86 (7 * s + p) ≤ aBase a s := i_nle.mpr q
    rw [if_neg q']
    have h88 := wl.2.2.2.2.2
    rw [Int32.le_iff_toInt_le, i_0] at h88
    have := M_stream (bt := bt) hF hs hp hz 4 F σ a false (by omega) h hr q' (by omega)
    refine WP_mono this (fun σ' hσ => ?_)
    unfold aFin at hσ
    rw [Bool.false_or] at hσ
    exact hσ
  · rw [if_pos (show aS a 86 (7 * s + p) ≤ aBase a s from i_nlt.mp q)]
    refine WP_r49 h (by decide) (by omega) ?_
    refine WP_if c0_le (fun q2 => ?_) (fun q2 => ?_)
    · rw [if_neg (i_nlt.mpr q2)]
      refine WP_wld h hs hp (Or.inr (Or.inr (Or.inl rfl))) (fun _ _ _ => ⟨fun z => absurd z (by decide), fun z => absurd z (by decide), fun z => absurd z (by decide), fun _ => by decide⟩) (fun σ1 h1 => ?_)
      refine WP_r7 h1 (by decide) hs ?_
      refine WP_r49 h1 (by decide) (by omega) ?_
      have key := M_piece (p := p) hF h1 hs hp wl.2.2.2.1 wl.2.2.2.2.1
      refine WP_if c2_le (fun q3 => ?_) (fun q3 => ?_)
      · have e : aMin 200 (aS (aI a 88 (7 * s + p) 1) 67 s - aS (aI a 88 (7 * s + p) 1) 90 (7 * s + p)) = aS (aI a 88 (7 * s + p) 1) 67 s - aS (aI a 88 (7 * s + p) 1) 90 (7 * s + p) := by
          unfold aMin
          by_cases q6 : (200 : Int32) ≤ aS (aI a 88 (7 * s + p) 1) 67 s - aS (aI a 88 (7 * s + p) 1) 90 (7 * s + p)
          · rw [if_pos q6]
            rw [Int32.le_iff_toInt_le] at q3 q6
            rw [← Int32.toInt_inj]
            omega
          · rw [if_neg q6]
        rw [e] at key
        exact key
      · have e : aMin 200 (aS (aI a 88 (7 * s + p) 1) 67 s - aS (aI a 88 (7 * s + p) 1) 90 (7 * s + p)) = 200 := by
          unfold aMin
          rw [if_pos]
          rw [Int32.le_iff_toInt_le] at q3 ⊢
          omega
        rw [e] at key
        exact key
    · rw [if_pos (i_nle.mp q2)]
      exact WP_some h
