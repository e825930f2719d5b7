theorem A_askFace_e {b : AA} {c kd k v : Int32} : A_askFace b c kd k v = (let a0 := aTpS b []
  if !aInR c 0 7 then (a0, 1, 0)
  else if !aAskable kd k v (Int32.ofNat (aTp b).length) then (a0, 2, 0)
  else
    let i := c.toNatClampNeg
    if ¬ aS b 124 i = 0 ∨ 1024 ≤ (aAk b).length then (a0, 3, 0)
    else
      let a2 := aI (akA a0 i (akQ b c kd k v)) 131 i (aB (decide (kd < 3) && decide (aS b 126 i = -1)))
      let a3 := if kd < 3 ∧ (decide (kd < 3) && decide (aS b 126 i = -1)) = false then aAdd a2 127 i 1 else a2
      (A_demand (aAdd a3 128 i 1) i, 0, Int32.ofNat (aAk b).length)) := rfl
theorem ask_fin {F : Nat} {τ : RS} {b : AA} {u : AU} {p L : Nat} {kd : Int32} {o : Bool} (hF : 500 ≤ F) (h : RM τ b u) (hp : p < 8) (hb : ¬ aS b 124 p = 0) (ht : aInR (aS b 125 p) 0 6 = true) (h129 : aS b 129 p = 0) (hL : (aAk b).length = L + 1) :
    WP (m_ask_b299 F τ (Int32.ofNat p) (aB o) (Int32.ofNat p) kd) (fun q => RM q.2 (A_demand (aAdd (if kd < 3 ∧ o = false then aAdd (aI b 131 p (aB o)) 127 p 1 else aI b 131 p (aB o)) 128 p 1) p) u ∧ q.1 = Int32.ofNat L) := by
  unfold m_ask_b299
  rw [show aB o &&& 1 = aB o by cases o <;> rfl]
  refine WP_w8 h (by decide) (by decide) hp (fun σ7 h7 => ?_)
  have b324 : ∀ (c : AA) (σ : RS), RM σ c u → ¬ aS c 124 p = 0 → aInR (aS c 125 p) 0 6 = true → aS c 129 p = 0 → (aAk c).length = L + 1 → WP (m_ask_b324 F σ (Int32.ofNat p)) (fun q => RM q.2 (A_demand (aAdd c 128 p 1) p) u ∧ q.1 = Int32.ofNat L) := by
    intro c σ hc c1 c2 c3 c4
    unfold m_ask_b324
    refine WP_r8 hc (by decide) hp ?_
    refine WP_w8 hc (by decide) (by decide) hp (fun σ3 h3 => ?_)
    refine WP_call (M_demand hF h3 hp c1 c2) (fun p5 h5 => WP_some ⟨h5, ?_⟩)
    have e140 := (h5.2.2.2.2.2.2.2.2.2.2.2.2.2.1).1
    have eK : (aAk (A_demand (aI c 128 p (aS c 128 p + 1)) p)) = aAk c := by
      rw [A_demand_e, if_neg]
      · have f1 : AFr [2, 21, 22, 29, 30, 130, 129] [0] (aI c 128 p (aS c 128 p + 1)) (aI (A_alarm (A_sendOut (aAdd (aI c 128 p (aS c 128 p + 1)) 129 p 1) (dmL (aAdd (aI c 128 p (aS c 128 p + 1)) 129 p 1) p)) (8 + p) (aNow (aAdd (aI c 128 p (aS c 128 p + 1)) 129 p 1) + 60)) 130 p 1) := AFr_w (AFr_t (AFr_t (AFr_t AFr_I AFr_sendOut) AFr_alarm) AFr_I) (by decide) (by decide)
        exact f1.2.2.2.2.2.2.2.2.2.2.2.1 (by decide)
      · have e : aS (aAdd (aI c 128 p (aS c 128 p + 1)) 129 p 1) 129 p = 1 := by
          show (if 129 = 129 ∧ p = p then aS (aI c 128 p (aS c 128 p + 1)) 129 p + 1 else _) = 1
          rw [if_pos ⟨rfl, rfl⟩, aS_If (by decide), c3]
          rfl
        rw [e]
        decide
    show p5.1 140 0 - 1 = Int32.ofNat L
    rw [e140, eK, c4, i_pre (by omega), Nat.add_sub_cancel]
  have g : ∀ f, f ≠ 131 → ∀ i, aS (aI b 131 p (aB o)) f i = aS b f i := fun f hf i => aS_If hf
  have b1 : ¬ aS (aI b 131 p (aB o)) 124 p = 0 := by rw [g 124 (by decide)]; exact hb
  have b2 : aInR (aS (aI b 131 p (aB o)) 125 p) 0 6 = true := by rw [g 125 (by decide)]; exact ht
  have b3 : aS (aI b 131 p (aB o)) 129 p = 0 := by rw [g 129 (by decide)]; exact h129
  have e131 : aS (aI b 131 p (aB o)) 131 p = aB o := if_pos ⟨rfl, rfl⟩
  have eK : (aAk (aI b 131 p (aB o))).length = L + 1 := hL
  generalize aI b 131 p (aB o) = c at h7 b1 b2 b3 e131 eK
  refine WP_if c2_ge (fun q => ?_) (fun q => ?_)
  · rw [if_neg (fun y => Int32.not_lt.mpr q y.1)]
    exact b324 c σ7 h7 b1 b2 b3 eK
  · have q := Int32.not_le.mp q
    refine WP_r8 h7 (by decide) hp ?_
    rw [e131]
    cases o with
    | true =>
      rw [if_neg (show ¬ (kd < 3 ∧ true = false) from fun y => absurd y.2 (by decide))]
      refine WP_if c0_ne (fun _ => ?_) (fun y => absurd (show ¬ (1 : Int32) = 0 by decide) y)
      exact b324 c σ7 h7 b1 b2 b3 eK
    | false =>
      rw [if_pos (show kd < 3 ∧ false = false from ⟨q, rfl⟩)]
      refine WP_if c0_ne (fun y => absurd rfl y) (fun _ => ?_)
      refine WP_r8 h7 (by decide) hp ?_
      refine WP_w8 h7 (by decide) (by decide) hp (fun σ15 h15 => ?_)
      have g2 : ∀ f, f ≠ 127 → ∀ i, aS (aI c 127 p (aS c 127 p + 1)) f i = aS c f i := fun f hf i => aS_If hf
      exact b324 (aI c 127 p (aS c 127 p + 1)) σ15 h15 (by rw [g2 124 (by decide)]; exact b1) (by rw [g2 125 (by decide)]; exact b2) (by rw [g2 129 (by decide)]; exact b3) eK
theorem ask_loop {F : Nat} {τ : RS} {b : AA} {u : AU} {p : Nat} {q : AK} {kd : Int32} {t : List Int32} (hF : 500 ≤ F) (h : RM τ b u) (hp : p < 8) (hq : wfK q) (hL : (aAk b).length < 1024) (hw : ∀ x ∈ aWay b, lOK (fun j => j < (aAk b).length) x.2.2) (hwt : ∀ s, s < 7 → ∀ l ∈ aWt b s, lOK (fun j => j < (aAk b).length) l) (hin : ∀ l, u.1.1 = some l → lOK (fun j => j < (aAk b).length) l)
    (ht : aInR (aS b 125 p) 0 6 = true) (h126 : aS b 126 p = -1 ∨ 0 ≤ aS b 126 p) (et : q.2 = t) (htape : ∀ i, i < t.length → τ.1 4 i = t.getD i 0) {M : RS} (hM : Fr [124, 129, 132, 133, 134, 135, 137, 140, 141, 142] [] τ M) (v140 : M.1 140 0 = Int32.ofNat ((aAk b).length + 1)) (v141 : M.1 141 0 = aS b 141 0 + 1) (o142 : ∀ i, i < 6 * (aAk b).length → M.1 142 i = τ.1 142 i) (v142 : ∀ x, x < 6 → M.1 142 (6 * (aAk b).length + x) = q.1 x)
    (oth : ∀ f, f ∈ [124, 129, 132, 133, 134, 135, 137] → ∀ j, j ≠ p → M.1 f j = τ.1 f j) (v124 : M.1 124 p = 1) (v129 : M.1 129 p = 0) (v137 : M.1 137 p = Int32.ofNat (aAk b).length) (v132 : M.1 132 p = q.1 1) (v133 : M.1 133 p = q.1 7) (v134 : M.1 134 p = q.1 8) (v135 : M.1 135 p = Int32.ofNat t.length) :
    WP (m_ask_b242 F F M (Int32.ofNat p) kd (Int32.ofNat t.length) 0) (fun r => RM r.2 (A_demand (aAdd (if kd < 3 ∧ (decide (kd < 3) && decide (aS b 126 p = -1)) = false then aAdd (aI (akA b p q) 131 p (aB (decide (kd < 3) && decide (aS b 126 p = -1)))) 127 p 1 else aI (akA b p q) 131 p (aB (decide (kd < 3) && decide (aS b 126 p = -1)))) 128 p 1) p) u ∧ r.1 = Int32.ofNat (aAk b).length) := by
  have ht400 : t.length ≤ 400 := by rw [← et]; exact hq.2.1
  have hlow : ∀ x ∈ t, aLow8 x = x := by rw [← et]; exact hq.2.2
  have key : ∀ n j (τ2 : RS), t.length + 1 ≤ j + n → j ≤ t.length → Fr [136] [] M τ2 → (∀ i, (i < 400 * p ∨ 400 * p + 400 ≤ i) → τ2.1 136 i = M.1 136 i) → (∀ i, i < j → τ2.1 136 (400 * p + i) = t.getD i 0) → WP (m_ask_b242 F n τ2 (Int32.ofNat p) kd (Int32.ofNat t.length) (Int32.ofNat j)) (fun r => RM r.2 (A_demand (aAdd (if kd < 3 ∧ (decide (kd < 3) && decide (aS b 126 p = -1)) = false then aAdd (aI (akA b p q) 131 p (aB (decide (kd < 3) && decide (aS b 126 p = -1)))) 127 p 1 else aI (akA b p q) 131 p (aB (decide (kd < 3) && decide (aS b 126 p = -1)))) 128 p 1) p) u ∧ r.1 = Int32.ofNat (aAk b).length) := by
    intro n
    induction n with
    | zero => intro j τ2 h1 h2; omega
    | succ n ih =>
      intro j τ2 h1 h2 g1 g2 g3
      unfold m_ask_b242
      refine WP_if (i_gei (by omega) (by omega)) (fun y => ?_) (fun y => ?_)
      · have : j = t.length := by omega
        subst this
        have e : ∀ f, f ≠ 136 → τ2.1 f = M.1 f := fun f hf => g1.1 f (by simpa using hf)
        have hr : RM τ2 (akA b p q) u := by
          refine RM_akd h hp hq hL hw hwt hin (Fr_w (Fr_t hM g1) (by simp) (by simp)) ?_ ?_ (fun i hi => ?_) (fun x hx => ?_) (fun f hf j hj => ?_) ?_ ?_ ?_ ?_ ?_ ?_ ?_ (fun i hi => ?_) (fun i hi => ?_)
          · rw [e 140 (by decide)]; exact v140
          · rw [e 141 (by decide)]; exact v141
          · rw [e 142 (by decide)]; exact o142 i hi
          · rw [e 142 (by decide)]; exact v142 x hx
          · rw [e f (fun z => by rw [z] at hf; exact absurd hf (by decide))]; exact oth f hf j hj
          · rw [e 124 (by decide)]; exact v124
          · rw [e 129 (by decide)]; exact v129
          · rw [e 137 (by decide)]; exact v137
          · rw [e 132 (by decide)]; exact v132
          · rw [e 133 (by decide)]; exact v133
          · rw [e 134 (by decide)]; exact v134
          · rw [e 135 (by decide), et]; exact v135
          · rw [g2 i hi, hM.1 136 (by decide)]
          · rw [et] at hi ⊢
            exact g3 i hi
        have e126 : aS (akA b p q) 126 p = aS b 126 p := rfl
        have e125 : aS (akA b p q) 125 p = aS b 125 p := rfl
        have e124 : aS (akA b p q) 124 p = 1 := by
          show (if 124 = 129 ∧ p = p then (0 : Int32) else if 124 = 124 ∧ p = p then 1 else _) = 1
          rw [if_neg (by omega), if_pos ⟨rfl, rfl⟩]
        have e129 : aS (akA b p q) 129 p = 0 := if_pos ⟨rfl, rfl⟩
        have eK : (aAk (akA b p q)).length = (aAk b).length + 1 := by
          show (aAk b ++ [q]).length = _
          rw [List.length_append]
          rfl
        have fin := @ask_fin F τ2 (akA b p q) u p (aAk b).length kd (decide (kd < 3) && decide (aS b 126 p = -1)) hF hr hp (by rw [e124]; decide) (by rw [e125]; exact ht) e129 eK
        generalize akA b p q = c at hr e126 fin
        unfold m_ask_b298
        refine WP_if c2_ge (fun z => ?_) (fun z => ?_)
        · rw [decide_eq_false (Int32.not_lt.mpr z), Bool.false_and] at fin ⊢
          exact fin
        · have z := Int32.not_le.mp z
          refine WP_r8 hr (by decide) hp ?_
          rw [e126]
          refine WP_if c0_ge (fun z2 => ?_) (fun z2 => ?_)
          · have n1 : ¬ aS b 126 p = -1 := fun y => by
              rw [y] at z2
              exact absurd z2 (by decide)
            rw [decide_eq_false n1, Bool.and_false] at fin ⊢
            exact fin
          · have y1 : aS b 126 p = -1 := h126.resolve_right z2
            rw [decide_eq_true y1, decide_eq_true z, Bool.and_true] at fin ⊢
            exact fin
      · rw [show (400 : Int32) * Int32.ofNat p + Int32.ofNat j = Int32.ofNat (400 * p + j) from i_ma (c := 400)]
        refine WP_ld rfl 400 (by decide +kernel) (by omega) ?_
        refine WP_st rfl 3200 (by decide +kernel) (by omega) ?_
        rw [g1.1 4 (by decide), hM.1 4 (by decide), htape j (by omega), low_get hlow (by omega), i_s]
        refine ih (j + 1) _ (by omega) (by omega) (Fr_w (Fr_t g1 Fr_I) (by simp) (by simp)) (fun i hi => ?_) (fun i hi => ?_)
        · rw [setI_i (by omega)]
          exact g2 i hi
        · by_cases z : i = j
          · rw [z, setI_e]
          · rw [setI_i (by omega)]
            exact g3 i (by omega)
  exact key F 0 M (by omega) (Nat.zero_le _) ⟨fun _ _ => rfl, fun _ _ => rfl⟩ (fun _ _ => rfl) (fun i hi => absurd hi (Nat.not_lt_zero _))
theorem F_ask {F : Nat} {σ : RS} {a : AA} {u : AU} {c kd k v : Int32} (hF : 500 ≤ F) (h : RM σ a u) (hw : ∀ p ∈ aWay a, lOK (fun j => j < (aAk a).length) p.2.2) (hwt : ∀ s, s < 7 → ∀ l ∈ aWt a s, lOK (fun j => j < (aAk a).length) l) (hin : ∀ l, u.1.1 = some l → lOK (fun j => j < (aAk a).length) l) (htg : ∀ c, c < 8 → aInR (aS a 125 c) 0 6 = true ∧ (aS a 126 c = -1 ∨ 0 ≤ aS a 126 c)) : FW (m_ask F σ c kd k v) (A_askFace (aI a 0 0 0) c kd k v) u := by
  obtain ⟨t1, t2, t3, t4⟩ := h.2.2.2.2.2.2.2.2.2.2.2.2.2.2.2.1
  obtain ⟨k1, k2, k3, k4⟩ := id (h.2.2.2.2.2.2.2.2.2.2.2.2.2.1)
  have h5 : RM (setI σ 5 0 0) (aTpS a []) u := RM_tp h (Fr_w (Fr_I (f := 5)) (by simp) (by simp)) ⟨setI_e, by simp, fun b hb => absurd hb List.not_mem_nil, fun i hi => absurd hi (Nat.not_lt_zero _)⟩
  have h4 : ∀ i, i < (aTp a).length → (setI σ 5 0 0).1 4 i = (aTp a).getD i 0 := fun i hi => by rw [setI_f (by decide)]; exact t4 i hi
  have h140 : (setI σ 5 0 0).1 140 0 = Int32.ofNat (aAk a).length := by rw [setI_f (by decide)]; exact k1
  rw [A_askFace_e]
  unfold m_ask m_ask_b0
  rw [t1, Option.bind_some]
  generalize setI σ 5 0 0 = σ1 at h5 h4 h140
  have end1 : ∀ kk : Nat, kk ≠ 0 → kk < 5 → ∀ w, FW (m_ask_b46 F σ1 (Int32.ofNat kk) c kd k v w) (aTpS (aI a 0 0 0) [], kk, 0) u := by
    intro kk n0 n5 w
    refine FW_no (a := aTpS a []) n0 ?_
    unfold m_ask_b46
    refine WP_th h5 (fun τ hτ e0 => ?_)
    rw [e0]
    refine WP_if c0_le (fun y => ?_) (fun _ => WP_some hτ)
    rw [show (0 : Int32) = Int32.ofNat 0 from rfl, i_ltn (by omega) (by omega)] at y
    omega
  dsimp only
  rw [show aTp (aI a 0 0 0) = aTp a from rfl, show aAk (aI a 0 0 0) = aAk a from rfl]
  by_cases q1 : aInR c 0 7 = true
  · rw [q1]
    simp only [Bool.not_true, Bool.false_eq_true, if_false]
    refine WP_in (lo' := 0) (hi' := 7) (by decide) (by decide) (fun _ => ?_) (fun y => by rw [q1] at y; exact absurd y (by decide))
    refine WP_if c0_ne (fun _ => ?_) (fun y => absurd (show ¬ (1 : Int32) = 0 by decide) y)
    refine WP_eq m_isAsking_n ?_
    by_cases q2 : aAskable kd k v (Int32.ofNat (aTp a).length) = true
    · rw [q2]
      simp only [Bool.not_true, Bool.false_eq_true, if_false]
      refine WP_if c0_ne (fun _ => ?_) (fun y => absurd (show ¬ (1 : Int32) = 0 by decide) y)
      obtain ⟨p, e1, hp⟩ := in_nat2 (hi := 7) (by omega) q1
      have hp8 : p < 8 := by omega
      have ec : c.toNatClampNeg = p := by rw [e1, i_cl (by omega)]
      rw [ec]
      unfold m_ask_b46
      rw [Option.bind_some, show (setI σ1 0 0 0).1 0 0 = 0 from setI_e, if_pos (c0_le.mpr (by decide))]
      have h6 : RM (setI σ1 0 0 0) (aTpS (aI a 0 0 0) []) u := RM_I (a := aTpS a []) h5 (by decide)
      have g4 : ∀ i, i < (aTp a).length → (setI σ1 0 0 0).1 4 i = (aTp a).getD i 0 := fun i hi => by rw [setI_f (by decide)]; exact h4 i hi
      have g140 : (setI σ1 0 0 0).1 140 0 = Int32.ofNat (aAk a).length := by rw [setI_f (by decide)]; exact h140
      generalize setI σ1 0 0 0 = σ2 at h6 g4 g140
      have b78 : FW (m_ask_b78 F σ2 c kd k v (Int32.ofNat (aTp a).length)) (aTpS (aI a 0 0 0) [], 3, 0) u := by
        unfold m_ask_b78 m_ask_b83
        refine WP_th h6 (fun τ hτ e0 => ?_)
        rw [e0]
        refine WP_if c0_le (fun y => absurd y (by decide)) (fun _ => WP_some ⟨hτ, fun y => absurd y (show ¬ (3 : Nat) = 0 by decide)⟩)
      rw [show rld σ2 124 c = some (aS (aTpS (aI a 0 0 0) []) 124 p) by rw [← RM_8 h6 (f := 124) (by decide) hp8]; exact rld_n e1 (by rw [show rlen 124 = 8 by decide +kernel]; omega), Option.bind_some]
      by_cases q3 : aS (aI a 0 0 0) 124 p = 0
      · rw [if_neg (show ¬ xc0 .ne (aS (aTpS (aI a 0 0 0) []) 124 p) = true from fun y => c0_ne.mp y q3), g140]
        by_cases q4 : (aAk a).length = 1024
        · rw [if_pos (show ¬ aS (aI a 0 0 0) 124 p = 0 ∨ 1024 ≤ (aAk a).length from Or.inr (by omega)), if_neg (show ¬ xc2 .ne (Int32.ofNat (aAk a).length) 1024 = true by rw [c2_ne, q4]; exact fun y => y rfl)]
          exact b78
        · rw [if_neg (show ¬ (¬ aS (aI a 0 0 0) 124 p = 0 ∨ 1024 ≤ (aAk a).length) from fun y => y.elim (fun z => z q3) (fun z => by omega)), if_pos (show xc2 .ne (Int32.ofNat (aAk a).length) 1024 = true by
            rw [c2_ne, show (1024 : Int32) = Int32.ofNat 1024 from rfl, i_eqi (by omega) (by omega)]
            exact q4)]
          unfold m_ask_b83
          rw [Option.bind_some, show (setI σ2 0 0 0).1 0 0 = 0 from setI_e, if_pos (c0_le.mpr (by decide))]
          have h7 : RM (setI σ2 0 0 0) (aTpS (aI a 0 0 0) []) u := by
            have := RM_I (f := 0) (i := 0) (v := 0) h6 (by decide)
            rw [aI_same (a := aTpS (aI a 0 0 0) []) (show aS (aTpS (aI a 0 0 0) []) 0 0 = 0 from rfl)] at this
            exact this
          have f4 : ∀ i, i < (aTp a).length → (setI σ2 0 0 0).1 4 i = (aTp a).getD i 0 := fun i hi => by rw [setI_f (by decide)]; exact g4 i hi
          have f140 : (setI σ2 0 0 0).1 140 0 = Int32.ofNat (aAk a).length := by rw [setI_f (by decide)]; exact g140
          have f141 : (setI σ2 0 0 0).1 141 0 = aS (aI a 0 0 0) 141 0 := (show (setI σ2 0 0 0).1 141 0 = aS (aTpS (aI a 0 0 0) []) 141 0 from RM_0 h7 (by decide))
          generalize setI σ2 0 0 0 = τ at h7 f4 f140 f141
          have eQ : (akQ (aI a 0 0 0) c kd k v).2 = aTp a := rfl
          have wq : wfK (akQ (aI a 0 0 0) c kd k v) := ⟨q2, t2, t3⟩
          have eb : aAk (aTpS (aI a 0 0 0) []) = aAk a := rfl
          have eb6 : aS (aTpS (aI a 0 0 0) []) 126 p = aS a 126 p := rfl
          have eb5 : aS (aTpS (aI a 0 0 0) []) 125 p = aS a 125 p := rfl
          have eb1 : aS (aTpS (aI a 0 0 0) []) 141 0 = aS (aI a 0 0 0) 141 0 := rfl
          have z00 : aS (aI a 0 0 0) 0 0 = 0 := rfl
          have Lb : (aAk a).length < 1024 := by omega
          rw [f140, show (6 : Int32) * Int32.ofNat (aAk a).length = Int32.ofNat (6 * (aAk a).length) from i_mc, e1]
          refine FW_ok ?_ ?_
          · have ef : EFr (akA (aTpS (aI a 0 0 0) []) p (akQ (aI a 0 0 0) c kd k v)) (A_demand (aAdd (if kd < 3 ∧ (decide (kd < 3) && decide (aS (aI a 0 0 0) 126 p = -1)) = false then aAdd (aI (akA (aTpS (aI a 0 0 0) []) p (akQ (aI a 0 0 0) c kd k v)) 131 p (aB (decide (kd < 3) && decide (aS (aI a 0 0 0) 126 p = -1)))) 127 p 1 else aI (akA (aTpS (aI a 0 0 0) []) p (akQ (aI a 0 0 0) c kd k v)) 131 p (aB (decide (kd < 3) && decide (aS (aI a 0 0 0) 126 p = -1)))) 128 p 1) p) :=
              EFr_t (EFr_t (EFr_if (EFr_t (EFr_I (by decide)) (EFr_I (by decide))) (EFr_I (by decide))) (EFr_I (by decide))) EFr_demand
            rw [← e1, ef.1 0 (by decide)]
            rfl
          · have hL6 : ∀ x, x < 6 → 6 * (aAk a).length + x < 6144 := fun x hx => by omega
            generalize hLL : (aAk a).length = L at hL6 f140 eb Lb
            refine WP_st rfl 6144 (by decide +kernel) (hL6 0 (by omega)) ?_
            refine WP_st (i_ad (s := 1)) 6144 (by decide +kernel) (hL6 1 (by omega)) ?_
            have v2 : (setI (setI τ 142 (6 * L) (Int32.ofNat p)) 142 (6 * L + 1) kd).1 141 0 = aS (aI a 0 0 0) 141 0 := by
              rw [setI_f (by decide), setI_f (by decide)]
              exact f141
            rw [v2]
            refine WP_st (i_ad (s := 2)) 6144 (by decide +kernel) (hL6 2 (by omega)) ?_
            refine WP_st (i_ad (s := 3)) 6144 (by decide +kernel) (hL6 3 (by omega)) ?_
            refine WP_st (i_ad (s := 4)) 6144 (by decide +kernel) (hL6 4 (by omega)) ?_
            refine WP_st (i_ad (s := 5)) 6144 (by decide +kernel) (hL6 5 (by omega)) ?_
            have hF1 : Fr [142] [] τ (setI (setI (setI (setI (setI (setI τ 142 (6 * L) (Int32.ofNat p)) 142 (6 * L + 1) kd) 142 (6 * L + 2) (aS (aI a 0 0 0) 141 0)) 142 (6 * L + 3) (-1)) 142 (6 * L + 4) 0) 142 (6 * L + 5) (-1)) := Fr_w (Fr_t (Fr_t (Fr_t (Fr_t (Fr_t Fr_I Fr_I) Fr_I) Fr_I) Fr_I) Fr_I) (by simp) (by simp)
            have hv1 : ∀ x, x < 6 → (setI (setI (setI (setI (setI (setI τ 142 (6 * L) (Int32.ofNat p)) 142 (6 * L + 1) kd) 142 (6 * L + 2) (aS (aI a 0 0 0) 141 0)) 142 (6 * L + 3) (-1)) 142 (6 * L + 4) 0) 142 (6 * L + 5) (-1)).1 142 (6 * L + x) = (akQ (aI a 0 0 0) (Int32.ofNat p) kd k v).1 x := by
              intro x hx
              have : x = 0 ∨ x = 1 ∨ x = 2 ∨ x = 3 ∨ x = 4 ∨ x = 5 := by omega
              rcases this with rfl | rfl | rfl | rfl | rfl | rfl
              · rw [setI_i (by omega), setI_i (by omega), setI_i (by omega), setI_i (by omega), setI_i (by omega)]
                exact setI_e
              · rw [setI_i (by omega), setI_i (by omega), setI_i (by omega), setI_i (by omega)]
                exact setI_e
              · rw [setI_i (by omega), setI_i (by omega), setI_i (by omega)]
                exact setI_e
              · rw [setI_i (by omega), setI_i (by omega)]
                exact setI_e
              · rw [setI_i (by omega)]
                exact setI_e
              · exact setI_e
            have ho1 : ∀ i, i < 6 * L → (setI (setI (setI (setI (setI (setI τ 142 (6 * L) (Int32.ofNat p)) 142 (6 * L + 1) kd) 142 (6 * L + 2) (aS (aI a 0 0 0) 141 0)) 142 (6 * L + 3) (-1)) 142 (6 * L + 4) 0) 142 (6 * L + 5) (-1)).1 142 i = τ.1 142 i := by
              intro i hi
              rw [setI_i (by omega), setI_i (by omega), setI_i (by omega), setI_i (by omega), setI_i (by omega), setI_i (by omega)]
            generalize setI (setI (setI (setI (setI (setI τ 142 (6 * L) (Int32.ofNat p)) 142 (6 * L + 1) kd) 142 (6 * L + 2) (aS (aI a 0 0 0) 141 0)) 142 (6 * L + 3) (-1)) 142 (6 * L + 4) 0) 142 (6 * L + 5) (-1) = M1 at hF1 hv1 ho1 ⊢
            have m141 : M1.1 141 0 = aS (aI a 0 0 0) 141 0 := by rw [hF1.1 141 (by decide)]; exact f141
            have m140 : M1.1 140 0 = Int32.ofNat L := by rw [hF1.1 140 (by decide)]; exact f140
            rw [Option.bind_some, m141]
            refine WP_st rfl 8 (by decide +kernel) hp8 ?_
            have w140 : (setI M1 141 0 (aS (aI a 0 0 0) 141 0 + 1)).1 140 0 = Int32.ofNat L := by rw [setI_f (by decide)]; exact m140
            rw [w140]
            have x140 : (setI (setI M1 141 0 (aS (aI a 0 0 0) 141 0 + 1)) 137 p (Int32.ofNat L)).1 140 0 = Int32.ofNat L := by rw [setI_f (by decide)]; exact w140
            rw [Option.bind_some, x140, i_s]
            refine WP_st rfl 8 (by decide +kernel) hp8 ?_
            refine WP_st rfl 8 (by decide +kernel) hp8 ?_
            refine WP_st rfl 8 (by decide +kernel) hp8 ?_
            refine WP_st rfl 8 (by decide +kernel) hp8 ?_
            refine WP_st rfl 8 (by decide +kernel) hp8 ?_
            refine WP_st rfl 8 (by decide +kernel) hp8 ?_
            rw [show (1 : Int32) &&& 1 = 1 from rfl]
            have hw' : ∀ x ∈ aWay (aTpS (aI a 0 0 0) []), lOK (fun j => j < (aAk (aTpS (aI a 0 0 0) [])).length) x.2.2 := hw
            have hwt' : ∀ s, s < 7 → ∀ l ∈ aWt (aTpS (aI a 0 0 0) []) s, lOK (fun j => j < (aAk (aTpS (aI a 0 0 0) [])).length) l := hwt
            have hin' : ∀ l, u.1.1 = some l → lOK (fun j => j < (aAk (aTpS (aI a 0 0 0) [])).length) l := hin
            have eLb : (aAk (aTpS (aI a 0 0 0) [])).length = L := hLL
            have htg' : aInR (aS (aTpS (aI a 0 0 0) []) 125 p) 0 6 = true := (htg p hp8).1
            have htg2 : aS (aTpS (aI a 0 0 0) []) 126 p = -1 ∨ 0 ≤ aS (aTpS (aI a 0 0 0) []) 126 p := (htg p hp8).2
            have fin := @ask_loop F τ (aTpS (aI a 0 0 0) []) u p (akQ (aI a 0 0 0) (Int32.ofNat p) kd k v) kd (aTp a) hF h7 hp8 wq (by rw [eLb]; exact Lb) hw' hwt' hin' htg' htg2 eQ f4
            rw [eLb] at fin
            refine fin (M := setI (setI (setI (setI (setI (setI (setI (setI (setI M1 141 0 (aS (aI a 0 0 0) 141 0 + 1)) 137 p (Int32.ofNat L)) 140 0 (Int32.ofNat (L + 1))) 124 p 1) 129 p 0) 132 p kd) 133 p k) 134 p v) 135 p (Int32.ofNat (aTp a).length)) ?_ ?_ ?_ ?_ ?_ ?_ ?_ ?_ ?_ ?_ ?_ ?_ ?_
            · exact Fr_w (Fr_t (Fr_t (Fr_t (Fr_t (Fr_t (Fr_t (Fr_t (Fr_t (Fr_t hF1 Fr_I) Fr_I) Fr_I) Fr_I) Fr_I) Fr_I) Fr_I) Fr_I) Fr_I) (by simp) (by simp)
            · iterate 6 rw [setI_f (by decide)]
              exact setI_e
            · iterate 8 rw [setI_f (by decide)]
              exact setI_e
            · intro i hi
              iterate 9 rw [setI_f (by decide)]
              exact ho1 i hi
            · intro x hx
              iterate 9 rw [setI_f (by decide)]
              exact hv1 x hx
            · intro f hf j hj
              have g : ∀ (X : RS) (g i : Nat) (w : Int32), (i = p ∨ g = 140 ∨ g = 141) → (setI X g i w).1 f j = X.1 f j := by
                intro X g i w hh
                refine if_neg (fun z => ?_)
                rcases hh with y | y | y
                · exact hj (z.2.trans y)
                · rw [z.1, y] at hf
                  exact absurd hf (by decide)
                · rw [z.1, y] at hf
                  exact absurd hf (by decide)
              rw [g _ 135 p _ (Or.inl rfl), g _ 134 p _ (Or.inl rfl), g _ 133 p _ (Or.inl rfl), g _ 132 p _ (Or.inl rfl), g _ 129 p _ (Or.inl rfl), g _ 124 p _ (Or.inl rfl), g _ 140 0 _ (Or.inr (Or.inl rfl)), g _ 137 p _ (Or.inl rfl), g _ 141 0 _ (Or.inr (Or.inr rfl)), hF1.1 f (fun z => by
                rw [List.mem_singleton] at z
                rw [z] at hf
                exact absurd hf (by decide))]
            · iterate 5 rw [setI_f (by decide)]
              exact setI_e
            · iterate 4 rw [setI_f (by decide)]
              exact setI_e
            · iterate 7 rw [setI_f (by decide)]
              exact setI_e
            · iterate 3 rw [setI_f (by decide)]
              exact setI_e
            · iterate 2 rw [setI_f (by decide)]
              exact setI_e
            · rw [setI_f (by decide)]
              exact setI_e
            · exact setI_e
      · rw [if_pos (show xc0 .ne (aS (aTpS (aI a 0 0 0) []) 124 p) = true from c0_ne.mpr q3), if_pos (show ¬ aS (aI a 0 0 0) 124 p = 0 ∨ 1024 ≤ (aAk a).length from Or.inl q3)]
        exact b78
    · have q2 := b_false q2
      rw [q2]
      simp only [Bool.not_false, if_true]
      refine WP_if c0_ne (fun y => absurd rfl y) (fun _ => ?_)
      exact end1 2 (by decide) (by decide) _
  · have q1 := b_false q1
    rw [q1]
    simp only [Bool.not_false, if_true]
    refine WP_in (lo' := 0) (hi' := 7) (by decide) (by decide) (fun y => by rw [q1] at y; exact absurd y (by decide)) (fun _ => ?_)
    refine WP_if c0_ne (fun y => absurd rfl y) (fun _ => ?_)
    exact end1 1 (by decide) (by decide) _
