/-! clients request -/
def dmL (a : AA) (c : Nat) : AL :=
  let o := !decide (aS a 131 c = 0)
  let k := aAsk a c
  let l := aLet (Int32.ofNat (8 + c)) (aS a 125 c) 10 (aS a 128 c)
  (aU (aU (aU (aU (aU l.1 6 (if o then 0 else if aCmd a c then 1 else 2)) 14 (if o then 0 else aS a 126 c)) 15 (if o then 0 else aS a 127 c)) 16 (if o then -1 else aS a 137 c)) 12 (if o then 2 else 12 + Int32.ofNat k.2.length), [], [], ([], []))
theorem A_demand_e {a : AA} {c : Nat} : A_demand a c = if 40 < aS (aAdd a 129 c 1) 129 c then A_resign (aAdd a 129 c 1) c else aI (A_alarm (A_sendOut (aAdd a 129 c 1) (dmL (aAdd a 129 c 1) c)) (8 + c) (aNow (aAdd a 129 c 1) + 60)) 130 c 1 := rfl
theorem wfC {c : Nat} (hc : c < 8) : aInR (Int32.ofNat (8 + c)) 8 15 = true := by
  revert hc c
  decide
theorem M_dem147 {F : Nat} {σ : RS} {a : AA} {u : AU} {c N : Nat} {l : AL} {bs : List Int32} (hF : 500 ≤ F) (h : RM σ a u) (hc : c < 8) (hN : N = bs.length) (hN2 : N ≤ 400) (e11 : σ.1 11 352 = Int32.ofNat N) (hbs : ∀ i, i < N → σ.1 136 (400 * c + i) = bs.getD i 0) (hlow : ∀ b ∈ bs, aLow8 b = b)
    (e8 : σ.1 8 352 = l.1 4) (e9 : σ.1 9 352 = l.1 5) (e10 : σ.1 10 352 = 0) (el : l.2.1 = []) (w : wfL l) (el2 : l.1 2 = Int32.ofNat (8 + c)) (el3 : l.1 3 = aS a 125 c) (td : ∀ j v, lTd (aAk a) l j = some v → σ.1 12 (2816 + j) = v) (eb : lBs (aAk a) l = bs) :
    WP (m_demand_b147 F F σ (Int32.ofNat c) 0) (fun τ => RM τ (aI (A_alarm (A_sendOut a l) (8 + c) (aNow a + 60)) 130 c 1) u) := by
  have key : ∀ n j (τ : RS), N + 1 ≤ j + n → j ≤ N → SLf 352 σ τ → Fr [] [16] σ τ → (∀ y, y < j → rLb τ 352 y = bs.getD y 0) → WP (m_demand_b147 F n τ (Int32.ofNat c) (Int32.ofNat j)) (fun τ => RM τ (aI (A_alarm (A_sendOut a l) (8 + c) (aNow a + 60)) 130 c 1) u) := by
    intro n
    induction n with
    | zero => intro j τ h1 h2; omega
    | succ n ih =>
      intro j τ h1 h2 hS hFr hy
      unfold m_demand_b147
      refine WP_ld (n := 352) rfl 354 (by decide +kernel) (by omega) ?_
      rw [hFr.1 11 (by decide), e11]
      refine WP_if (i_gei (by omega) (by omega)) (fun q => ?_) (fun q => ?_)
      · have : j = N := by omega
        subst this
        refine WP_st (n := 352) rfl 354 (by decide +kernel) (by omega) ?_
        have h2 : RM (setI τ 6 352 (8 + Int32.ofNat c)) a u := RM_out h (SLf_I hS (by unfold sOf; omega))
        refine WP_r8 h2 (by decide) hc ?_
        refine WP_st (n := 352) rfl 354 (by decide +kernel) (by omega) ?_
        have h3 : RM (setI (setI τ 6 352 (8 + Int32.ofNat c)) 7 352 (aS a 125 c)) a u := RM_out h (SLf_I (SLf_I hS (by unfold sOf; omega)) (by unfold sOf; omega))
        have hlt : RLt (aAk a) (setI (setI τ 6 352 (8 + Int32.ofNat c)) 7 352 (aS a 125 c)) 352 l := by
          have g : ∀ f i, f ≠ 6 → f ≠ 7 → (setI (setI τ 6 352 (8 + Int32.ofNat c)) 7 352 (aS a 125 c)).1 f i = σ.1 f i := by
            intro f i f6 f7
            rw [setI_f f7, setI_f f6, hFr.1 f (by simp)]
          refine ⟨?_, ?_, (g 8 352 (by decide) (by decide)).trans e8, (g 9 352 (by decide) (by decide)).trans e9, ?_, ?_, w, ⟨j, by omega, (g 11 352 (by decide) (by decide)).trans e11, ?_, ?_⟩, fun x v hv => ?_, fun x v hv => ?_, ?_⟩
          · rw [setI_f (by decide), setI_e, el2]
            exact i_ad (c := 8)
          · rw [setI_e, el3]
          · rw [g 10 352 (by decide) (by decide), e10, el]
            rfl
          · rw [el]
            exact Nat.zero_le _
          · rw [eb, hN]
            exact Nat.le_refl _
          · rw [el]
            exact fun i hi => absurd hi (Nat.not_lt_zero _)
          · rw [g 12 _ (by decide) (by decide)]
            exact td x v hv
          · rw [eb] at hv
            obtain ⟨q1, q2⟩ := List.getElem?_eq_some_iff.mp hv
            have := hy x (by omega)
            rw [List.getD_eq_getElem?_getD, hv] at this
            exact this
          · rw [el]
            exact fun i hi => absurd hi (Nat.not_lt_zero _)
        generalize setI (setI τ 6 352 (8 + Int32.ofNat c)) 7 352 (aS a 125 c) = σ3 at h3 hlt
        refine WP_call (M_sendOut (slot := 352) (by omega) h3 (by omega) (by omega) hlt) (fun p10 hp => ?_)
        have e1 : p10.1 1 0 = aNow a := (RM_0 hp.1 (by decide)).trans (AFr_sendOut.1 1 (by decide) 0)
        rw [e1, show (8 : Int32) + Int32.ofNat c = Int32.ofNat (8 + c) from i_ad (c := 8)]
        refine WP_call (M_alarm hp.1 (by omega)) (fun p12 h12 => ?_)
        exact WP_w8 h12 (by decide) (by decide) hc (fun σ1 h1 => WP_some h1)
      · rw [show (400 : Int32) * Int32.ofNat c + Int32.ofNat j = Int32.ofNat (400 * c + j) from i_ma (c := 400)]
        refine WP_ld rfl 3200 (by decide +kernel) (by omega) ?_
        rw [hFr.1 136 (by decide), hbs j (by omega), show (540672 : Int32) + Int32.ofNat j = Int32.ofNat (540672 + j) from i_ad (c := 540672)]
        refine WP_eq (m_layLetter_n (by omega)) ?_
        rw [i_s]
        have hv : (bs.getD j 0).toInt8.toInt32 = bs.getD j 0 := by
          rw [List.getD_eq_getElem?_getD, List.getElem?_eq_getElem (by omega)]
          exact hlow _ (List.getElem_mem _)
        refine ih (j + 1) _ (by omega) (by omega) (SLf_L hS (by omega)) (Fr_w (Fr_t hFr Fr_L) (by simp) (by simp)) (fun z hz => ?_)
        rw [rLb_lay hv]
        by_cases q3 : z = j
        · rw [if_pos q3, q3]
        · rw [if_neg q3]
          exact hy z (by omega)
  exact key F 0 σ (by omega) (Nat.zero_le _) SLf_refl ⟨fun _ _ => rfl, fun _ _ => rfl⟩ (fun y hy => absurd hy (Nat.not_lt_zero _))
theorem M_demand {F : Nat} {σ : RS} {a : AA} {u : AU} {c : Nat} (hF : 500 ≤ F) (h : RM σ a u) (hc : c < 8) (hb : ¬ aS a 124 c = 0) (ht : aInR (aS a 125 c) 0 6 = true) : WP (m_demand F σ (Int32.ofNat c)) (fun τ => RM τ (A_demand a c) u) := by
  rw [A_demand_e]
  unfold m_demand m_demand_b0
  refine WP_r8 h (by decide) hc ?_
  refine WP_w8 h (by decide) (by decide) hc (fun σ1 h1 => ?_)
  have hb1 : ¬ aS (aAdd a 129 c 1) 124 c = 0 := hb
  have ht1 : aInR (aS (aAdd a 129 c 1) 125 c) 0 6 = true := ht
  change RM σ1 (aAdd a 129 c 1) u at h1
  generalize aAdd a 129 c 1 = b at h1 hb1 ht1
  refine WP_r8 h1 (by decide) hc ?_
  refine WP_if c2_le (fun q => ?_) (fun q => ?_)
  · rw [if_neg (Int32.not_lt.mpr q)]
    obtain ⟨i, e1, e2, e3, e4, e5, wk, k132, k133, k134, k135, k136⟩ := wn_get h1 hc hb1
    obtain ⟨kd, f, v, y1, y2, y3, y4, y5, y6, y7, y8, y9, _⟩ := ask_nat wk
    refine WP_r8 h1 (by decide) hc ?_
    refine WP_r8 h1 (by decide) hc ?_
    have dm2 : (dmL b c).1 2 = Int32.ofNat (8 + c) := rfl
    have dm3 : (dmL b c).1 3 = aS b 125 c := rfl
    have wdm : wfL (dmL b c) := ⟨Or.inr (wfC hc), Or.inl ht1⟩
    have main : ∀ x71, (aS b 131 c = 0 → x71 = (aAsk b c).1 1) → (¬ aS b 131 c = 0 → x71 = 6) → WP (m_demand_b58 F σ1 10 (aS b 128 c) x71 (Int32.ofNat c) (aS b 131 c)) (fun τ => RM τ (aI (A_alarm (A_sendOut b (dmL b c)) (8 + c) (aNow b + 60)) 130 c 1) u) := by
      intro x71 hx1 hx2
      unfold m_demand_b58
      refine WP_r8 h1 (by decide) hc ?_
      refine WP_r8 h1 (by decide) hc ?_
      refine WP_eq m_write_n ?_
      have hw : RM (wrO σ1 10 (aS b 128 c) x71 (aS b 126 c) (aS b 127 c)) b u := RM_out h1 wrO_S
      have g : ∀ f, f ≠ 8 → f ≠ 9 → f ≠ 10 → f ≠ 11 → f ≠ 12 → ∀ i, (wrO σ1 10 (aS b 128 c) x71 (aS b 126 c) (aS b 127 c)).1 f i = σ1.1 f i := by
        intro f f8 f9 f10 f11 f12 i
        unfold wrO
        rw [setI_f f12, setI_f f12, setI_f f12, setI_f f11, setI_f f10, setI_f f9, setI_f f8]
      have w8 : (wrO σ1 10 (aS b 128 c) x71 (aS b 126 c) (aS b 127 c)).1 8 352 = 10 := rfl
      have w9 : (wrO σ1 10 (aS b 128 c) x71 (aS b 126 c) (aS b 127 c)).1 9 352 = aS b 128 c := rfl
      have w10 : (wrO σ1 10 (aS b 128 c) x71 (aS b 126 c) (aS b 127 c)).1 10 352 = 0 := rfl
      have w0 : (wrO σ1 10 (aS b 128 c) x71 (aS b 126 c) (aS b 127 c)).1 12 2816 = x71 := rfl
      have w1 : (wrO σ1 10 (aS b 128 c) x71 (aS b 126 c) (aS b 127 c)).1 12 2817 = aS b 126 c := rfl
      have w2 : (wrO σ1 10 (aS b 128 c) x71 (aS b 126 c) (aS b 127 c)).1 12 2818 = aS b 127 c := rfl
      generalize wrO σ1 10 (aS b 128 c) x71 (aS b 126 c) (aS b 127 c) = σ2 at hw g w8 w9 w10 w0 w1 w2
      refine WP_ld rfl 8 (by decide +kernel) hc ?_
      refine WP_st (n := 2819) rfl 2832 (by decide +kernel) (by omega) ?_
      refine WP_ld rfl 8 (by decide +kernel) hc ?_
      refine WP_st (n := 2820) rfl 2832 (by decide +kernel) (by omega) ?_
      rw [setI_f (show (134 : Nat) ≠ 12 by decide), g 133 (by decide) (by decide) (by decide) (by decide) (by decide), g 134 (by decide) (by decide) (by decide) (by decide) (by decide), k133, k134]
      have last : ∀ N : Nat, (aS b 131 c = 0 → N = (aAsk b c).2.length) → (¬ aS b 131 c = 0 → N = 0) → ∀ X : RS → Option RS, (∀ τ, X τ = m_demand_b144 F τ 352 (Int32.ofNat N) (Int32.ofNat c)) → WP (X (setI (setI (setI σ2 12 2819 ((aAsk b c).1 7)) 12 2820 ((aAsk b c).1 8)) 12 2821 (Int32.ofNat N))) (fun τ => RM τ (aI (A_alarm (A_sendOut b (dmL b c)) (8 + c) (aNow b + 60)) 130 c 1) u) := by
        intro N hN1 hN2 X hX
        rw [hX]
        unfold m_demand_b144
        refine WP_st (n := 352) rfl 354 (by decide +kernel) (by omega) ?_
        have hr : RM (setI (setI (setI (setI σ2 12 2819 ((aAsk b c).1 7)) 12 2820 ((aAsk b c).1 8)) 12 2821 (Int32.ofNat N)) 11 352 (Int32.ofNat N)) b u := RM_out hw (SLf_I (SLf_I (SLf_I (SLf_I SLf_refl (by unfold sOf; omega)) (by unfold sOf; omega)) (by unfold sOf; omega)) (by unfold sOf; omega))
        by_cases q0 : aS b 131 c = 0
        · have hN := hN1 q0
          have ecm : (dmL b c).1 6 = if aCmd b c then 1 else 2 := by
            show (if (!decide (aS b 131 c = 0)) = true then (0 : Int32) else if aCmd b c = true then 1 else 2) = _
            rw [decide_eq_true q0]
            rfl
          have n6 : ¬ (dmL b c).1 6 = 0 := by
            rw [ecm]
            split <;> decide
          have e16 : (dmL b c).1 16 = aS b 137 c := by
            show (if (!decide (aS b 131 c = 0)) = true then (-1 : Int32) else aS b 137 c) = _
            rw [decide_eq_true q0]
            rfl
          have e14 : (dmL b c).1 14 = aS b 126 c := by
            show (if (!decide (aS b 131 c = 0)) = true then (0 : Int32) else aS b 126 c) = _
            rw [decide_eq_true q0]
            rfl
          have e15 : (dmL b c).1 15 = aS b 127 c := by
            show (if (!decide (aS b 131 c = 0)) = true then (0 : Int32) else aS b 127 c) = _
            rw [decide_eq_true q0]
            rfl
          have ek : (aAk b).getD ((dmL b c).1 16).toNatClampNeg (fun _ => 0, []) = aAsk b c := by
            rw [e16]
            rfl
          have e4' : (dmL b c).1 4 = 10 := rfl
          refine M_dem147 (N := N) (l := dmL b c) (bs := (aAsk b c).2) (by omega) hr hc hN (by omega) setI_e (fun i hi => ?_) wk.2.2 ?_ ?_ ?_ rfl wdm rfl rfl (fun j v hv => ?_) ?_
          · rw [setI_f (by decide), setI_f (by decide), setI_f (by decide), setI_f (by decide), g 136 (by decide) (by decide) (by decide) (by decide) (by decide)]
            exact k136 i (by omega)
          · exact w8
          · exact w9
          · exact w10
          · have e : lTd (aAk b) (dmL b c) j = [(aAsk b c).1 1, aS b 126 c, aS b 127 c, (aAsk b c).1 7, (aAsk b c).1 8, Int32.ofNat (aAsk b c).2.length][j]? := by
              unfold lTd
              dsimp only
              rw [if_neg (by rw [e4']; decide), if_neg (by rw [e4']; decide), if_neg (by rw [e4']; decide), if_neg (by rw [e4']; decide), if_neg (by rw [e4']; decide), if_neg (by rw [e4']; decide), if_pos e4', if_neg n6, ek, e14, e15]
            rw [e] at hv
            rw [setI_f (by decide)]
            match j, hv with
            | 0, hv => rw [setI_i (by omega), setI_i (by omega), setI_i (by omega), ← Option.some.inj hv, ← hx1 q0]; exact w0
            | 1, hv => rw [setI_i (by omega), setI_i (by omega), setI_i (by omega), ← Option.some.inj hv]; exact w1
            | 2, hv => rw [setI_i (by omega), setI_i (by omega), setI_i (by omega), ← Option.some.inj hv]; exact w2
            | 3, hv => rw [setI_i (by omega), setI_i (by omega), ← Option.some.inj hv]; exact setI_e
            | 4, hv => rw [setI_i (by omega), ← Option.some.inj hv]; exact setI_e
            | 5, hv => rw [← Option.some.inj hv, ← hN]; exact setI_e
            | j + 6, hv => exact absurd hv (by simp)
          · unfold lBs
            rw [if_neg (by rw [e4']; decide), if_pos e4', if_neg n6, ek]
        · have hN := hN2 q0
          subst hN
          have e6 : (dmL b c).1 6 = 0 := by
            show (if (!decide (aS b 131 c = 0)) = true then (0 : Int32) else if aCmd b c = true then 1 else 2) = _
            rw [decide_eq_false q0]
            rfl
          have e4' : (dmL b c).1 4 = 10 := rfl
          refine M_dem147 (N := 0) (l := dmL b c) (bs := []) (by omega) hr hc rfl (by omega) setI_e (fun i hi => absurd hi (Nat.not_lt_zero _)) (fun b hb => absurd hb List.not_mem_nil) ?_ ?_ ?_ rfl wdm rfl rfl (fun j v hv => ?_) ?_
          · exact w8
          · exact w9
          · exact w10
          · have e : lTd (aAk b) (dmL b c) j = if j = 0 then some 6 else if j = 5 then some 0 else none := by
              unfold lTd
              dsimp only
              rw [if_neg (by rw [e4']; decide), if_neg (by rw [e4']; decide), if_neg (by rw [e4']; decide), if_neg (by rw [e4']; decide), if_neg (by rw [e4']; decide), if_neg (by rw [e4']; decide), if_pos e4', if_pos e6]
            rw [e] at hv
            rw [setI_f (by decide)]
            by_cases j0 : j = 0
            · rw [if_pos j0] at hv
              rw [j0, setI_i (by omega), setI_i (by omega), setI_i (by omega), ← Option.some.inj hv, ← hx2 q0]
              exact w0
            · rw [if_neg j0] at hv
              by_cases j5 : j = 5
              · rw [if_pos j5] at hv
                rw [j5, ← Option.some.inj hv]
                exact setI_e
              · rw [if_neg j5] at hv
                exact absurd hv (by simp)
          · unfold lBs
            rw [if_neg (by rw [e4']; decide), if_pos e4', if_pos e6]
      by_cases q0 : aS b 131 c = 0
      · refine WP_if c0_eq (fun _ => ?_) (fun y => absurd q0 y)
        refine WP_ld rfl 8 (by decide +kernel) hc ?_
        rw [setI_f (show (135 : Nat) ≠ 12 by decide), setI_f (show (135 : Nat) ≠ 12 by decide), g 135 (by decide) (by decide) (by decide) (by decide) (by decide), k135]
        unfold m_demand_b122
        refine WP_st (n := 2821) rfl 2832 (by decide +kernel) (by omega) ?_
        refine WP_if c0_eq (fun _ => ?_) (fun y => absurd q0 y)
        refine WP_ld rfl 8 (by decide +kernel) hc ?_
        rw [setI_f (show (135 : Nat) ≠ 12 by decide), setI_f (show (135 : Nat) ≠ 12 by decide), setI_f (show (135 : Nat) ≠ 12 by decide), g 135 (by decide) (by decide) (by decide) (by decide) (by decide), k135]
        exact last _ (fun _ => rfl) (fun y => absurd q0 y) (fun τ => m_demand_b144 F τ 352 (Int32.ofNat (aAsk b c).2.length) (Int32.ofNat c)) (fun _ => rfl)
      · refine WP_if c0_eq (fun y => absurd y q0) (fun _ => ?_)
        unfold m_demand_b122
        refine WP_st (n := 2821) rfl 2832 (by decide +kernel) (by omega) ?_
        refine WP_if c0_eq (fun y => absurd y q0) (fun _ => ?_)
        exact last 0 (fun y => absurd y q0) (fun _ => rfl) (fun τ => m_demand_b144 F τ 352 (Int32.ofNat 0) (Int32.ofNat c)) (fun _ => rfl)
    refine WP_if c0_eq (fun y => ?_) (fun y => ?_)
    · refine WP_ld rfl 8 (by decide +kernel) hc ?_
      rw [k132]
      exact main _ (fun _ => rfl) (fun z => absurd y z)
    · exact main _ (fun z => absurd z y) (fun _ => rfl)
  · rw [if_pos (Int32.not_le.mp q)]
    exact WP_call (M_resign h1 hc hb1) (fun p hp => WP_some hp)
