/-! letters with entries -/
theorem rB_8 {w : Nat → Int64} {k : Nat} : (rB w k).toInt8.toInt32 = rB w k := i_b8
theorem rLb_lay {τ : RS} {k y : Nat} {v : Int32} (hv : v.toInt8.toInt32 = v) : rLb (setL τ 16 ((540672 + k) / 8) (rlay (τ.2 16 ((540672 + k) / 8)) ((540672 + k) % 8) v)) 352 y = if y = k then v else rLb τ 352 y := by
  unfold rLb
  rw [setL_w, rB_lay, hv]
  by_cases q : y = k
  · rw [if_pos q, if_pos (by omega)]
  · rw [if_neg q, if_neg (by omega)]
theorem wE_in {F : Nat} {K54 : RS → Int32 → Int32 → Int32 → Int32 → Option RS} {τ0 : RS} {l1 l2 l3 : Int32} {i p z : Nat} {Q : RS → Prop} (hi : i < 6) (hp : p < 3584) (hz : z ≤ 256) (ez : τ0.1 61 p = Int32.ofNat z)
    (hK : ∀ τ, SLf 352 τ0 τ → Fr [11] [16] τ0 τ → τ.1 11 352 = Int32.ofNat (256 * i + z) → (∀ y, y < 1536 → rLb τ 352 y = if 256 * i ≤ y ∧ y < 256 * i + z then rB (τ0.2 63) (256 * p + (y - 256 * i)) else rLb τ0 352 y) → WP (K54 τ l1 l2 l3 (Int32.ofNat (i + 1))) Q) :
    ∀ n q (τ : RS), z + 1 ≤ q + n → q ≤ z → SLf 352 τ0 τ → Fr [] [16] τ0 τ → (∀ y, y < 1536 → rLb τ 352 y = if 256 * i ≤ y ∧ y < 256 * i + q then rB (τ0.2 63) (256 * p + (y - 256 * i)) else rLb τ0 352 y) → WP (m_writeEntries_b127 F K54 n τ l1 l2 l3 (Int32.ofNat i) (Int32.ofNat p) (Int32.ofNat q)) Q := by
  intro n
  induction n with
  | zero => intro q τ h1 h2; omega
  | succ n ih =>
    intro q τ h1 h2 hS hF hb
    unfold m_writeEntries_b127
    refine WP_ld rfl 3584 (by decide +kernel) hp ?_
    have e61 : τ.1 61 p = Int32.ofNat z := by rw [hF.1 61 (by decide)]; exact ez
    rw [e61]
    refine WP_if (i_gei (by omega) (by omega)) (fun q2 => ?_) (fun q2 => ?_)
    · have : q = z := by omega
      subst this
      refine WP_ld rfl 3584 (by decide +kernel) hp ?_
      rw [e61, show (256 : Int32) * Int32.ofNat i + Int32.ofNat q = Int32.ofNat (256 * i + q) from i_ma]
      refine WP_st (n := 352) rfl 354 (by decide +kernel) (by omega) ?_
      rw [i_s]
      exact hK _ (SLf_I hS (by unfold sOf; omega)) (Fr_w (Fr_t hF Fr_I) (by simp) (by simp)) setI_e hb
    · rw [show (256 : Int32) * Int32.ofNat p + Int32.ofNat q = Int32.ofNat (256 * p + q) from i_ma, show (540672 : Int32) + (256 : Int32) * Int32.ofNat i + Int32.ofNat q = Int32.ofNat (540672 + (256 * i + q)) by
        rw [Int32.ofNat_add, Int32.ofNat_add, Int32.ofNat_mul, ← Int32.add_assoc]
        rfl]
      refine WP_eq (m_inLog_n (by omega)) ?_
      refine WP_eq (m_layLetter_n (by omega)) ?_
      rw [i_s]
      refine ih (q + 1) _ (by omega) (by omega) (SLf_L hS (by omega)) (Fr_w (Fr_t hF Fr_L) (by simp) (by simp)) (fun y hy => ?_)
      show rLb (setL τ 16 _ _) 352 y = _
      rw [rLb_lay rB_8, hb y hy, hF.2 63 (by decide)]
      by_cases q3 : y = 256 * i + q
      · rw [if_pos q3, if_pos (by omega), q3]
        rw [show 256 * i + q - 256 * i = q by omega]
      · rw [if_neg q3]
        by_cases q4 : 256 * i ≤ y ∧ y < 256 * i + q
        · rw [if_pos q4, if_pos (by omega)]
        · rw [if_neg q4, if_neg (by omega)]
/-- entries that lie in the letter that is made -/
def wEs (K : List AK) (τ : RS) (es : List AE) (i : Nat) : Prop := ∀ x, x < i → let e := es.getD x aE0
  wfE K e ∧ (eCon K e).length ≤ 256 ∧ τ.1 13 (2112 + x) = e.1 ∧ τ.1 14 (2112 + x) = e.2.1 ∧ τ.1 15 (2112 + x) = e.2.2.1 ∧ bM (fun q => rLb τ 352 (256 * x + q)) (eCon K e) 256
theorem wE_out {F : Nat} {σ : RS} {a : AA} {u : AU} {s j N : Nat} (hF : 400 ≤ F) (h : RM σ a u) (hs : s < 7) (hN : N ≤ 6) (hj : j + N ≤ (aLg a s).length) :
    ∀ n i (τ : RS), N + 1 ≤ i + n → i ≤ N → SLf 352 σ τ → Fr [11, 13, 14, 15] [16] σ τ → wEs (aAk a) τ ((aLg a s).drop j) i → (∃ U, U ≤ 256 * i ∧ τ.1 11 352 = Int32.ofNat U ∧ ∀ x, x < i → 256 * x + (eCon (aAk a) (((aLg a s).drop j).getD x aE0)).length ≤ U) →
    WP (m_writeEntries_b54 F n τ (Int32.ofNat s) (aBase a s + 1 + Int32.ofNat j) (Int32.ofNat N) (Int32.ofNat i)) (fun τ' => SLf 352 σ τ' ∧ Fr [11, 13, 14, 15] [16] σ τ' ∧ wEs (aAk a) τ' ((aLg a s).drop j) N ∧ ∃ U, U ≤ 256 * N ∧ τ'.1 11 352 = Int32.ofNat U ∧ ∀ x, x < N → 256 * x + (eCon (aAk a) (((aLg a s).drop j).getD x aE0)).length ≤ U) := by
  intro n
  induction n with
  | zero => intro i τ h1 h2; omega
  | succ n ih =>
    intro i τ h1 h2 hS hFr hE hU
    unfold m_writeEntries_b54
    refine WP_if (i_gei (by omega) (by omega)) (fun q => ?_) (fun q => ?_)
    · have : i = N := by omega
      subst this
      exact WP_some ⟨hS, hFr, hE, hU⟩
    · rw [show aBase a s + 1 + Int32.ofNat j + Int32.ofNat i = aBase a s + 1 + Int32.ofNat (j + i) by rw [Int32.ofNat_add, Int32.add_assoc]]
      refine WP_eq m_logOf_n ?_
      have hlog := h.2.2.2.2.1 s hs (j + i) (by omega)
      have hpd : 512 * s + rMod (aBase a s + 1 + Int32.ofNat (j + i)) = rLp s (aS a 55 s + 1 + Int32.ofNat (j + i)) := rfl
      rw [hpd]
      have hp : rLp s (aS a 55 s + 1 + Int32.ofNat (j + i)) < 3584 := by
        unfold rLp
        have := @rMod_lt (aS a 55 s + 1 + Int32.ofNat (j + i))
        omega
      dsimp only at hlog
      generalize rLp s (aS a 55 s + 1 + Int32.ofNat (j + i)) = p at hlog hp
      have hed : (aLg a s).getD (j + i) aE0 = ((aLg a s).drop j).getD i aE0 := by
        rw [List.getD_eq_getElem?_getD, List.getD_eq_getElem?_getD, List.getElem?_drop]
      rw [hed] at hlog
      generalize hee : ((aLg a s).drop j).getD i aE0 = e at hlog
      obtain ⟨g1, g2, g3, g4, g5, g6⟩ := hlog
      refine WP_ld rfl 3584 (by decide +kernel) hp ?_
      rw [show (2112 : Int32) + Int32.ofNat i = Int32.ofNat (2112 + i) from i_ad (c := 2112)]
      refine WP_st rfl 2124 (by decide +kernel) (by omega) ?_
      refine WP_ld rfl 3584 (by decide +kernel) hp ?_
      refine WP_st rfl 2124 (by decide +kernel) (by omega) ?_
      refine WP_ld rfl 3584 (by decide +kernel) hp ?_
      refine WP_st rfl 2124 (by decide +kernel) (by omega) ?_
      rw [setI_f (show (61 : Nat) ≠ 14 by decide), setI_f (show (61 : Nat) ≠ 13 by decide), setI_f (show (60 : Nat) ≠ 13 by decide), hFr.1 59 (by decide), hFr.1 60 (by decide), hFr.1 61 (by decide), g1, g2, g3]
      have hS3 : SLf 352 σ (setI (setI (setI τ 13 (2112 + i) e.1) 14 (2112 + i) e.2.1) 15 (2112 + i) e.2.2.1) := SLf_I (SLf_I (SLf_I hS (by unfold sOf; omega)) (by unfold sOf; omega)) (by unfold sOf; omega)
      have hF3 : Fr [11, 13, 14, 15] [16] σ (setI (setI (setI τ 13 (2112 + i) e.1) 14 (2112 + i) e.2.1) 15 (2112 + i) e.2.2.1) := Fr_w (Fr_t (Fr_t (Fr_t hFr Fr_I) Fr_I) Fr_I) (by simp) (by simp)
      have v13 : (setI (setI (setI τ 13 (2112 + i) e.1) 14 (2112 + i) e.2.1) 15 (2112 + i) e.2.2.1).1 13 = fun x => if x = 2112 + i then e.1 else τ.1 13 x := by
        funext x
        simp [setI]
      have v14 : (setI (setI (setI τ 13 (2112 + i) e.1) 14 (2112 + i) e.2.1) 15 (2112 + i) e.2.2.1).1 14 = fun x => if x = 2112 + i then e.2.1 else τ.1 14 x := by
        funext x
        simp [setI]
      have v15 : (setI (setI (setI τ 13 (2112 + i) e.1) 14 (2112 + i) e.2.1) 15 (2112 + i) e.2.2.1).1 15 = fun x => if x = 2112 + i then e.2.2.1 else τ.1 15 x := by
        funext x
        simp [setI]
      have vb : ∀ y, rLb (setI (setI (setI τ 13 (2112 + i) e.1) 14 (2112 + i) e.2.1) 15 (2112 + i) e.2.2.1) 352 y = rLb τ 352 y := fun y => rfl
      generalize setI (setI (setI τ 13 (2112 + i) e.1) 14 (2112 + i) e.2.1) 15 (2112 + i) e.2.2.1 = τ3 at hS3 hF3 v13 v14 v15 vb
      refine wE_in (i := i) (p := p) (z := (eCon (aAk a) e).length) (by omega) hp g5 (by rw [hF3.1 61 (by decide), g3]; exact g4.1) (fun τ4 k1 k2 k3 k4 => ?_) F 0 τ3 (by omega) (Nat.zero_le _) SLf_refl ⟨fun _ _ => rfl, fun _ _ => rfl⟩ (fun y hy => by rw [if_neg (by omega)])
      refine ih (i + 1) τ4 (by omega) (by omega) (SLf_t hS3 k1) (Fr_w (Fr_t hF3 k2) (by simp) (by simp)) (fun x hx => ?_) ⟨256 * i + (eCon (aAk a) e).length, by omega, k3, fun x hx => ?_⟩
      · dsimp only
        rw [k2.1 13 (by decide), k2.1 14 (by decide), k2.1 15 (by decide), v13, v14, v15]
        dsimp only
        by_cases q2 : x = i
        · rw [q2, hee, if_pos rfl, if_pos rfl, if_pos rfl]
          refine ⟨g4, g5, rfl, rfl, rfl, fun y v hy hv => ?_⟩
          obtain ⟨hl, _⟩ := List.getElem?_eq_some_iff.mp hv
          show rLb τ4 352 (256 * i + y) = v
          rw [k4 _ (by omega), if_pos (by omega), hF3.2 63 (by decide), show 256 * i + y - 256 * i = y by omega]
          exact g6 y v hy hv
        · rw [if_neg (by omega), if_neg (by omega), if_neg (by omega)]
          obtain ⟨f1, f2, f3, f4, f5, f6⟩ := hE x (by omega)
          refine ⟨f1, f2, f3, f4, f5, fun y v hy hv => ?_⟩
          show rLb τ4 352 (256 * x + y) = v
          rw [k4 _ (by omega), if_neg (by omega), vb]
          exact f6 y v hy hv
      · by_cases q2 : x = i
        · rw [q2, hee]
          exact Nat.le_refl _
        · obtain ⟨U, u1, u2, u3⟩ := hU
          have := u3 x (by omega)
          omega
theorem aB_n {a : AA} {s j : Nat} (w : WLg a s) (hj : j ≤ (aLg a s).length) : (aBase a s + 1 + Int32.ofNat j).toInt = (aBase a s).toInt + 1 + j := by
  obtain ⟨w1, w2, w3, w4⟩ := w
  rw [i_addI, i_addI, i_1, Int32.toInt_ofNat_of_lt (by omega)]
  · rw [i_1]
    omega
  · rw [i_1]
    omega
  · rw [i_addI (by rw [i_1]; omega) (by rw [i_1]; omega), i_1, Int32.toInt_ofNat_of_lt (by omega)]
    omega
  · rw [i_addI (by rw [i_1]; omega) (by rw [i_1]; omega), i_1, Int32.toInt_ofNat_of_lt (by omega)]
    omega
theorem aB_prev {a : AA} {s j : Nat} (w : WLg a s) (hj : j ≤ (aLg a s).length) : aBase a s + 1 + Int32.ofNat j - 1 = aBase a s ∨ aHas a s (aBase a s + 1 + Int32.ofNat j - 1) = true := by
  have e := aB_n w hj
  obtain ⟨w1, w2, w3, w4⟩ := w
  have e2 : (aBase a s + 1 + Int32.ofNat j - 1).toInt = (aBase a s).toInt + j := by
    rw [i_subI (by rw [e, i_1]; omega) (by rw [e, i_1]; omega), e, i_1]
    omega
  by_cases q : j = 0
  · left
    rw [← Int32.toInt_inj, e2, q]
    omega
  · right
    unfold aHas
    rw [Bool.and_eq_true_iff]
    refine ⟨decide_eq_true ?_, decide_eq_true ?_⟩
    · rw [Int32.lt_iff_toInt_lt, e2]
      omega
    · rw [Int32.le_iff_toInt_le, e2]
      omega
theorem M_writeEntries {F : Nat} {σ : RS} {a : AA} {u : AU} {s p j N : Nat} (hF : 400 ≤ F) (h : RM σ a u) (hs : s < 7) (hp : p < 7) (hN : N ≤ 6) (hj : j + N ≤ (aLg a s).length) : WP (m_writeEntries F σ (Int32.ofNat s) (aBase a s + 1 + Int32.ofNat j) (Int32.ofNat N)) (fun τ => RM τ a u ∧ Mad (aAk a) τ (aEntries a s p (aBase a s + 1 + Int32.ofNat j) N)) := by
  unfold m_writeEntries m_writeEntries_b0
  have w := RM_wl h hs
  refine WP_r7 h (by decide) hs ?_
  refine WP_eq (M_termAt h hs (aB_prev w (by omega))) ?_
  refine WP_r7 h (by decide) hs ?_
  refine WP_eq m_write_n ?_
  have h1 : RM (wrO σ 5 (aS a 53 s) (aBase a s + 1 + Int32.ofNat j - 1) (aTermAt a s (aBase a s + 1 + Int32.ofNat j - 1)) (aS a 75 s)) a u := RM_out h wrO_S
  refine WP_r7 h1 (by decide) hs ?_
  refine WP_st (n := 2819) rfl 2832 (by decide +kernel) (by omega) ?_
  refine WP_st (n := 352) rfl 354 (by decide +kernel) (by omega) ?_
  have x8 : (setI (setI (wrO σ 5 (aS a 53 s) (aBase a s + 1 + Int32.ofNat j - 1) (aTermAt a s (aBase a s + 1 + Int32.ofNat j - 1)) (aS a 75 s)) 12 2819 (aS a 83 s)) 10 352 (Int32.ofNat N)).1 8 352 = 5 := rfl
  have x9 : (setI (setI (wrO σ 5 (aS a 53 s) (aBase a s + 1 + Int32.ofNat j - 1) (aTermAt a s (aBase a s + 1 + Int32.ofNat j - 1)) (aS a 75 s)) 12 2819 (aS a 83 s)) 10 352 (Int32.ofNat N)).1 9 352 = aS a 53 s := rfl
  have x10 : (setI (setI (wrO σ 5 (aS a 53 s) (aBase a s + 1 + Int32.ofNat j - 1) (aTermAt a s (aBase a s + 1 + Int32.ofNat j - 1)) (aS a 75 s)) 12 2819 (aS a 83 s)) 10 352 (Int32.ofNat N)).1 10 352 = Int32.ofNat N := rfl
  have x11 : (setI (setI (wrO σ 5 (aS a 53 s) (aBase a s + 1 + Int32.ofNat j - 1) (aTermAt a s (aBase a s + 1 + Int32.ofNat j - 1)) (aS a 75 s)) 12 2819 (aS a 83 s)) 10 352 (Int32.ofNat N)).1 11 352 = Int32.ofNat 0 := rfl
  have x12 : ∀ v, v < 4 → (setI (setI (wrO σ 5 (aS a 53 s) (aBase a s + 1 + Int32.ofNat j - 1) (aTermAt a s (aBase a s + 1 + Int32.ofNat j - 1)) (aS a 75 s)) 12 2819 (aS a 83 s)) 10 352 (Int32.ofNat N)).1 12 (2816 + v) = [aBase a s + 1 + Int32.ofNat j - 1, aTermAt a s (aBase a s + 1 + Int32.ofNat j - 1), aS a 75 s, aS a 83 s].getD v 0 := by
    intro v hv
    have : v = 0 ∨ v = 1 ∨ v = 2 ∨ v = 3 := by omega
    rcases this with rfl | rfl | rfl | rfl <;> rfl
  have hS : SLf 352 σ (setI (setI (wrO σ 5 (aS a 53 s) (aBase a s + 1 + Int32.ofNat j - 1) (aTermAt a s (aBase a s + 1 + Int32.ofNat j - 1)) (aS a 75 s)) 12 2819 (aS a 83 s)) 10 352 (Int32.ofNat N)) := SLf_I (SLf_I wrO_S (by unfold sOf; omega)) (by unfold sOf; omega)
  generalize setI (setI (wrO σ 5 (aS a 53 s) (aBase a s + 1 + Int32.ofNat j - 1) (aTermAt a s (aBase a s + 1 + Int32.ofNat j - 1)) (aS a 75 s)) 12 2819 (aS a 83 s)) 10 352 (Int32.ofNat N) = σ2 at x8 x9 x10 x11 x12 hS
  have h2 : RM σ2 a u := RM_out h hS
  refine WP_mono (wE_out hF h2 hs hN hj F 0 σ2 (by omega) (Nat.zero_le _) SLf_refl ⟨fun _ _ => rfl, fun _ _ => rfl⟩ (fun x hx => absurd hx (Nat.not_lt_zero _)) ⟨0, Nat.le_refl _, x11, fun x hx => absurd hx (Nat.not_lt_zero _)⟩) ?_
  rintro τ ⟨t1, t2, t3, U, u1, u2, u3⟩
  refine ⟨RM_out h2 t1, ?_⟩
  have eN : (aBase a s + 1 + Int32.ofNat j - aBase a s - 1).toNatClampNeg = j := by
    have e := aB_n w (show j ≤ (aLg a s).length by omega)
    obtain ⟨w1, w2, w3, w4⟩ := w
    unfold Int32.toNatClampNeg
    rw [i_subI (by rw [i_subI (by omega) (by omega), e, i_1]; omega) (by rw [i_subI (by omega) (by omega), e, i_1]; omega), i_subI (by omega) (by omega), e, i_1]
    omega
  have ee : (aEntries a s p (aBase a s + 1 + Int32.ofNat j) N).2.1 = ((aLg a s).drop j).take N := by
    show (((aLg a s).drop (aBase a s + 1 + Int32.ofNat j - aBase a s - 1).toNatClampNeg).take N) = _
    rw [eN]
  have el : (((aLg a s).drop j).take N).length = N := by
    rw [List.length_take, List.length_drop]
    omega
  have eg : ∀ x, x < N → (((aLg a s).drop j).take N).getD x aE0 = ((aLg a s).drop j).getD x aE0 := by
    intro x hx
    rw [List.getD_eq_getElem?_getD, List.getD_eq_getElem?_getD, List.getElem?_take_of_lt hx]
  refine ⟨?_, ?_, ?_, ?_, ⟨wfS hs, Or.inl (ofs7 hp)⟩, ⟨U, by omega, u2, Nat.zero_le _, fun i hi => ?_⟩, fun v x hv => ?_, fun i v hv => ?_, fun i hi => ?_⟩
  · rw [t2.1 8 (by decide)]
    exact x8
  · rw [t2.1 9 (by decide)]
    exact x9
  · rw [t2.1 10 (by decide), ee, el]
    exact x10
  · rw [ee, el]
    exact hN
  · rw [ee] at hi ⊢
    rw [el] at hi
    show 256 * i + (eCon (aAk a) ((((aLg a s).drop j).take N).getD i aE0)).length ≤ U
    rw [eg i hi]
    exact u3 i hi
  · rw [t2.1 12 (by decide)]
    match v, hv with
    | 0, hv => exact (x12 0 (by omega)).trans (Option.some.inj hv)
    | 1, hv => exact (x12 1 (by omega)).trans (Option.some.inj hv)
    | 2, hv => exact (x12 2 (by omega)).trans (Option.some.inj hv)
    | 3, hv => exact (x12 3 (by omega)).trans (Option.some.inj hv)
    | v + 4, hv => exact absurd hv (by simp [lTd, aU, aLet, aEntries])
  · exact absurd hv (by simp [lBs, aU, aLet, aEntries])
  · rw [ee] at hi ⊢
    rw [el] at hi
    have := t3 i hi
    dsimp only at this ⊢
    rw [show (((aLg a s).drop j).take N).getD i (0, 0, 0, 0, 0, 0) = ((aLg a s).drop j).getD i aE0 from eg i hi]
    exact this
