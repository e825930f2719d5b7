theorem M_take {F : Nat} {σ : RS} {a : AA} {u : AU} {s : Nat} {l : AL} (hF : 20000 ≤ F) (h : RM σ a u) (hs : s < 7) (hl : u.1.1 = some l) (h5 : l.1 4 = 5) (hf : aInR (l.1 2) 0 6 = true ∨ aInR (l.1 2) 8 15 = true) (hp0 : 0 ≤ l.1 7) (hup : aS a 52 s = 1) (hz : u.2 s) (hmk : u.2 (14 + s)) (hr : ¬ aS a 73 s = 3) (hd : dRq a s) (hmx : (aS a 151 s).toInt < 2147483000)
    (hpa : ∀ l1 e l2, (tkR a s l).2 = l1 ++ e :: l2 → pApp (aAppendAll s l1 (tk1 a s l)) s) (hm : aMax (l.1 7 + Int32.ofNat (tkE a s l).length) (aBase (tk2 a s l) s) ≤ aLast (tk2 a s l) s)
    (hcut : (tkR a s l).2 ≠ [] → (tkR a s l).1 ≤ aLast a s → aBase a s < (tkR a s l).1 ∧ aS a 75 s < (tkR a s l).1) : WP (m_take F σ (Int32.ofNat s) (l.1 2) (l.1 10)) (fun τ => RM τ (A_take a s l) u) := by
  have wl := RM_wl h hs
  obtain ⟨w1, w2, w3, w4⟩ := id wl
  obtain ⟨t7, t8, _⟩ := td5 h hl h5
  have hlet := h_inl h hl
  obtain ⟨_, _, _, _, ecnt, hcnt, _, _, _, _, hent⟩ := id hlet
  have p0 := Int32.le_iff_toInt_le.mp hp0
  rw [i_0] at p0
  have pmx := Int32.toInt_lt (l.1 7)
  rw [A_take_e]
  -- whatever the number of entries is, a gap is told
  have far : ∀ l6, aLast a s < l.1 7 → WP (m_take_b71 F σ (Int32.ofNat s) (l.1 2) (l.1 10) (l.1 7) (l.1 8) l6) (fun τ => RM τ (aAppended a s (l.1 2) 0 (aLast a s + 1) (l.1 10)) u) := by
    intro l6 q
    unfold m_take_b71
    refine WP_r7 h (by decide) hs ?_
    refine WP_if c2_le (fun y => absurd y (Int32.not_le.mpr q)) (fun _ => ?_)
    refine WP_r7 h (by decide) hs ?_
    unfold aAppended
    exact WP_call (M_tell (by omega) h hs hf (Or.inl ⟨rfl, rfl, rfl, rfl⟩)) (fun q hq => WP_some hq)
  by_cases qfar : aLast a s < l.1 7
  · rw [if_pos qfar]
    unfold m_take m_take_b0
    refine WP_ld (n := 2824) rfl 2832 (by decide +kernel) (by omega) ?_
    refine WP_ld (n := 2825) rfl 2832 (by decide +kernel) (by omega) ?_
    refine WP_ld (n := 353) rfl 354 (by decide +kernel) (by omega) ?_
    rw [t7, t8]
    refine WP_r7 h (by decide) hs ?_
    refine WP_if c2_le (fun _ => ?_) (fun _ => ?_)
    · unfold m_take_b63
      exact WP_if c0_ge (fun _ => far _ qfar) (fun _ => far _ qfar)
    · refine WP_r7 h (by decide) hs ?_
      unfold m_take_b63
      exact WP_if c0_ge (fun _ => far _ qfar) (fun _ => far _ qfar)
  · rw [if_neg qfar]
    have qn : l.1 7 ≤ aLast a s := Int32.not_lt.mp qfar
    have qn' := Int32.le_iff_toInt_le.mp qn
    -- how many entries are looked at
    have eb : (aBase a s + 250).toInt = (aBase a s).toInt + 250 := by rw [i_addI (by rw [show (250 : Int32).toInt = 250 by decide]; omega) (by rw [show (250 : Int32).toInt = 250 by decide]; omega), show (250 : Int32).toInt = 250 by decide]
    have er : (aBase a s + 250 - l.1 7).toInt = (aBase a s).toInt + 250 - (l.1 7).toInt := by rw [i_subI (by rw [eb]; omega) (by rw [eb]; omega), eb]
    have ecl : ((aBase a s + 250 - l.1 7).toNatClampNeg : Int) = if 0 ≤ (aBase a s).toInt + 250 - (l.1 7).toInt then (aBase a s).toInt + 250 - (l.1 7).toInt else 0 := by
      by_cases z : 0 ≤ (aBase a s).toInt + 250 - (l.1 7).toInt
      · rw [if_pos z]
        have := i_nat (x := aBase a s + 250 - l.1 7) (by rw [Int32.le_iff_toInt_le, i_0, er]; exact z)
        omega
      · rw [if_neg z]
        have : (aBase a s + 250 - l.1 7).toNatClampNeg = (aBase a s + 250 - l.1 7).toInt.toNat := rfl
        omega
    have elen : (tkE a s l).length = min (aBase a s + 250 - l.1 7).toNatClampNeg l.2.1.length := by
      unfold tkE
      rw [List.length_take]
    have main : WP (m_take_b71 F σ (Int32.ofNat s) (l.1 2) (l.1 10) (l.1 7) (l.1 8) (Int32.ofNat (tkE a s l).length)) (fun τ => RM τ (if aBase a s ≤ l.1 7 ∧ ¬ aTermAt a s (l.1 7) = l.1 8 then aAppended a s (l.1 2) 0 (aRunStart a s 300 (if l.1 7 = aBase a s then l.1 7 + 1 else l.1 7)) (l.1 10)
  else if aClash a s (l.1 7 + 1) (tkE a s l) then a else tk3 a s l) u) := by
      have hes : (tkE a s l).length ≤ l.2.1.length := by omega
      have h6 : (tkE a s l).length ≤ 6 := by omega
      have hE : ∀ i, i < (tkE a s l).length → (tkE a s l).getD i aE0 = l.2.1.getD i aE0 := by
        intro i hi
        unfold tkE at hi ⊢
        rw [List.length_take] at hi
        rw [List.getD_eq_getElem?_getD, List.getElem?_take_of_lt (by omega), List.getD_eq_getElem?_getD]
      have hE13 : ∀ i, i < (tkE a s l).length → σ.1 13 (2118 + i) = ((tkE a s l).getD i aE0).1 := by
        intro i hi
        rw [hE i hi]
        exact (hent i (by omega)).2.2.1
      have go : ¬ (aBase a s ≤ l.1 7 ∧ ¬ aTermAt a s (l.1 7) = l.1 8) → WP (m_take_b197 F σ (Int32.ofNat s) (l.1 2) (l.1 10) (l.1 7) (Int32.ofNat (tkE a s l).length)) (fun τ => RM τ (if aBase a s ≤ l.1 7 ∧ ¬ aTermAt a s (l.1 7) = l.1 8 then aAppended a s (l.1 2) 0 (aRunStart a s 300 (if l.1 7 = aBase a s then l.1 7 + 1 else l.1 7)) (l.1 10)
  else if aClash a s (l.1 7 + 1) (tkE a s l) then a else tk3 a s l) u) := by
        intro q0
        rw [if_neg q0]
        unfold m_take_b197
        refine take_clash h hs hmk h6 hE13 (fun y => by rw [if_pos y]; exact h) (fun y => ?_) F 0 (by omega) (Nat.zero_le _) (by rw [List.drop_zero, show l.1 7 + 1 + Int32.ofNat 0 = l.1 7 + 1 from Int32.add_zero _])
        rw [if_neg (show ¬ aClash a s (l.1 7 + 1) (tkE a s l) = true by rw [y]; decide)]
        refine take_news h hs h6 hE13 (fun i hi en => ?_) F 0 (by omega) (Nat.zero_le _) (by rw [List.drop_zero, show l.1 7 + 1 + Int32.ofNat 0 = l.1 7 + 1 from Int32.add_zero _])
        have en : tkR a s l = (l.1 7 + 1 + Int32.ofNat i, (tkE a s l).drop i) := en
        have fin : ∀ (τ : RS), RM τ (tk1 a s l) u → WP (m_take_b375 F F τ (Int32.ofNat s) (l.1 2) (l.1 10) (l.1 7) (Int32.ofNat (tkE a s l).length) (Int32.ofNat i)) (fun τ => RM τ (tk3 a s l) u) := by
          intro τ hτ
          have fr := @AFr_tk2 a s l
          refine take_append (a := a) (B := tk2 a s l) (by omega) hs hl hz h6 hes hE (fun τ2 h2 => ?_) F i (tk1 a s l) τ (by omega) hi hτ ?_ ?_ ?_
          · exact take_end hF h2 hs hf hl h5 (by rw [fr.1 52 (by decide)]; exact hup) hz hmk (by unfold dRq; rw [fr.2.2.2.2.2.2.2.2.2.2.1 (by decide)]; exact hd) (by rw [fr.1 151 (by decide)]; exact hmx) hm
          · rw [(AFr_tk1).1 52 (by decide)]
            exact hup
          · unfold tk2
            rw [en]
          · rw [en] at hpa
            exact hpa
        unfold m_take_b340
        refine WP_if (i_gei (by omega) (by omega)) (fun q => ?_) (fun q => ?_)
        · have e1 : tk1 a s l = a := by
            unfold tk1
            rw [if_neg]
            rw [en]
            intro y
            refine y.1 (List.drop_eq_nil_of_le q)
          exact fin σ (e1.symm ▸ h)
        · have hne : (tkE a s l).drop i ≠ [] := fun y => by
            have := List.drop_eq_nil_iff.mp y
            omega
          refine WP_r7 h (by decide) hs ?_
          refine WP_if c2_gt (fun q2 => ?_) (fun q2 => ?_)
          · have e1 : tk1 a s l = a := by
              unfold tk1
              rw [if_neg]
              rw [en]
              exact fun y => Int32.not_le.mpr q2 y.2
            exact fin σ (e1.symm ▸ h)
          · have q2 : l.1 7 + 1 + Int32.ofNat i ≤ aLast a s := Int32.not_lt.mp q2
            have e1 : tk1 a s l = A_cutLog a s (l.1 7 + 1 + Int32.ofNat i) := by
              unfold tk1
              rw [en, if_pos ⟨hne, q2⟩]
            rw [en] at hcut
            obtain ⟨z1, z2⟩ := hcut hne q2
            refine WP_call (M_cutLog (by omega) h hs hup hz hr z1 q2 (fun _ => z2)) (fun p1 hp1 => ?_)
            exact fin p1 (e1.symm ▸ hp1)
      unfold m_take_b71
      refine WP_r7 h (by decide) hs ?_
      refine WP_if c2_le (fun _ => ?_) (fun y => absurd qn y)
      refine WP_r7 h (by decide) hs ?_
      refine WP_if c2_lt (fun q1 => ?_) (fun q1 => ?_)
      · exact go (fun y => Int32.not_le.mpr q1 y.1)
      · have q1 : aBase a s ≤ l.1 7 := Int32.not_lt.mp q1
        have hok : l.1 7 = aBase a s ∨ aHas a s (l.1 7) = true := by
          by_cases z : l.1 7 = aBase a s
          · exact Or.inl z
          · right
            refine aHas_of ?_ qn
            rw [Int32.lt_iff_toInt_lt]
            rw [Int32.le_iff_toInt_le] at q1
            have : (l.1 7).toInt ≠ (aBase a s).toInt := fun y => z (Int32.toInt_inj.mp y)
            omega
        refine WP_eq (M_termAt h hs hok) ?_
        refine WP_if c2_eq (fun q2 => ?_) (fun q2 => ?_)
        · exact go (fun y => y.2 q2)
        · rw [if_pos ⟨q1, q2⟩]
          refine WP_r7 h (by decide) hs ?_
          have q1' := Int32.le_iff_toInt_le.mp q1
          have ep1 : (l.1 7 + 1).toInt = (l.1 7).toInt + 1 := by rw [i_addI (by rw [i_1]; omega) (by rw [i_1]; omega), i_1]
          unfold m_take_b144
          refine WP_if c2_ne (fun q3 => ?_) (fun q3 => ?_)
          · have q3 : ¬ l.1 7 = aBase a s := q3
            rw [if_neg q3]
            have : (l.1 7).toInt ≠ (aBase a s).toInt := fun y => q3 (Int32.toInt_inj.mp y)
            exact take_run (by omega) h hs hf hok 300 F (l.1 7) (by omega) (by omega) (Int32.lt_iff_toInt_lt.mpr (by omega)) (Or.inr ⟨qn, rfl⟩) (by omega)
          · have q3 : l.1 7 = aBase a s := Classical.not_not.mp q3
            rw [if_pos q3]
            refine take_run (by omega) h hs hf hok 300 F (l.1 7 + 1) (by rw [ep1]; omega) (by omega) (Int32.lt_iff_toInt_lt.mpr (by rw [ep1]; omega)) (Or.inl ?_) (by rw [ep1]; omega)
            rw [q3]
            exact Int32.le_refl _
    unfold m_take m_take_b0
    refine WP_ld (n := 2824) rfl 2832 (by decide +kernel) (by omega) ?_
    refine WP_ld (n := 2825) rfl 2832 (by decide +kernel) (by omega) ?_
    refine WP_ld (n := 353) rfl 354 (by decide +kernel) (by omega) ?_
    rw [t7, t8, ecnt]
    have ecn : (Int32.ofNat l.2.1.length).toInt = l.2.1.length := Int32.toInt_ofNat_of_lt (by omega)
    have epl : (l.1 7 + Int32.ofNat l.2.1.length).toInt = (l.1 7).toInt + l.2.1.length := by rw [i_addI (by rw [ecn]; omega) (by rw [ecn]; omega), ecn]
    refine WP_r7 h (by decide) hs ?_
    refine WP_if c2_le (fun q => ?_) (fun q => ?_)
    · have q : l.1 7 + Int32.ofNat l.2.1.length ≤ aBase a s + 250 := q
      rw [Int32.le_iff_toInt_le, epl, eb] at q
      have : (tkE a s l).length = l.2.1.length := by
        rw [if_pos (by omega)] at ecl
        omega
      unfold m_take_b63
      rw [this] at main
      refine WP_if c0_ge (fun _ => main) (fun y => absurd ?_ y)
      rw [Int32.le_iff_toInt_le, i_0, ecn]
      omega
    · have q : ¬ l.1 7 + Int32.ofNat l.2.1.length ≤ aBase a s + 250 := q
      rw [Int32.le_iff_toInt_le, epl, eb] at q
      refine WP_r7 h (by decide) hs ?_
      rw [show aS a 55 s = aBase a s from rfl]
      unfold m_take_b63
      refine WP_if c0_ge (fun y => ?_) (fun y => ?_)
      · rw [Int32.le_iff_toInt_le, i_0, er] at y
        rw [if_pos y] at ecl
        have e : Int32.ofNat (tkE a s l).length = aBase a s + 250 - l.1 7 := by
          refine Int32.toInt_inj.mp ?_
          rw [er, Int32.toInt_ofNat_of_lt (by omega)]
          omega
        rw [e] at main
        exact main
      · rw [Int32.le_iff_toInt_le, i_0, er] at y
        rw [if_neg y] at ecl
        have e : (tkE a s l).length = 0 := by omega
        rw [e] at main
        exact main
