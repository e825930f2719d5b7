/-! the face: a client is asked -/
theorem m_isAsking_n {σ : RS} {kd k v n : Int32} : m_isAsking σ kd k v n = some (aB (aAskable kd k v n), σ) := by
  have g : WP (m_isAsking σ kd k v n) (fun p => p = (aB (aAskable kd k v n), σ)) := by
    unfold m_isAsking m_isAsking_b0 m_isAsking_b33 aAskable
    refine WP_in (lo' := 0) (hi' := 5) (by decide) (by decide) (fun q1 => ?_) (fun q1 => ?_)
    · refine WP_if c0_eq (fun y => absurd (show (1 : Int32) = 0 from y) (by decide)) (fun _ => ?_)
      refine WP_in (lo' := 1) (hi' := 32) (by decide) (by decide) (fun q2 => ?_) (fun q2 => ?_)
      · refine WP_if c0_eq (fun y => absurd (show (1 : Int32) = 0 from y) (by decide)) (fun _ => ?_)
        rw [q1, q2]
        have b35 : WP (m_isAsking_b35 σ kd k v n) (fun p => p = (aB (if kd = 0 then aInR (n - k) 0 100 else if kd = 1 then aInR v 0 100 && aInR (n - k - v) 0 100 else if kd = 4 then aInR (n - k) 1 32 else decide (n - k = 0)), σ)) := by
          unfold m_isAsking_b35 m_isAsking_b92 m_isAsking_b93 m_isAsking_b122
          refine WP_if c0_ne (fun w0 => ?_) (fun w0 => ?_)
          · rw [if_neg w0]
            refine WP_if c2_ne (fun w1 => ?_) (fun w1 => ?_)
            · rw [if_neg w1]
              refine WP_if c2_ne (fun w4 => ?_) (fun w4 => ?_)
              · rw [if_neg w4]
                refine WP_if c0_ne (fun z => ?_) (fun z => ?_)
                · rw [decide_eq_false z]
                  exact WP_some rfl
                · rw [decide_eq_true (Classical.not_not.mp z)]
                  exact WP_some rfl
              · rw [if_pos (Classical.not_not.mp w4)]
                refine WP_in (lo' := 1) (hi' := 32) (by decide) (by decide) (fun z => ?_) (fun z => ?_)
                · rw [z]
                  exact WP_some rfl
                · rw [z]
                  exact WP_some rfl
            · rw [if_pos (Classical.not_not.mp w1)]
              refine WP_in (lo' := 0) (hi' := 100) (by decide) (by decide) (fun z => ?_) (fun z => ?_)
              · refine WP_if c0_eq (fun y => absurd (show (1 : Int32) = 0 from y) (by decide)) (fun _ => ?_)
                rw [z]
                refine WP_in (lo' := 0) (hi' := 100) (by decide) (by decide) (fun z2 => ?_) (fun z2 => ?_)
                · rw [z2]
                  refine WP_if c0_eq (fun y => absurd (show (1 : Int32) = 0 from y) (by decide)) (fun _ => ?_)
                  exact WP_some rfl
                · rw [z2]
                  refine WP_if c0_eq (fun _ => ?_) (fun y => absurd rfl y)
                  exact WP_some rfl
              · refine WP_if c0_eq (fun _ => ?_) (fun y => absurd rfl y)
                rw [z]
                exact WP_some rfl
          · rw [if_pos (Classical.not_not.mp w0)]
            refine WP_in (lo' := 0) (hi' := 100) (by decide) (by decide) (fun z => ?_) (fun z => ?_)
            · rw [z]
              exact WP_some rfl
            · rw [z]
              exact WP_some rfl
        refine WP_if c2_eq (fun w1 => ?_) (fun w1 => ?_)
        · rw [decide_eq_true w1, Bool.true_or, Bool.and_true, Bool.true_and]
          exact b35
        · rw [decide_eq_false w1, Bool.false_or]
          refine WP_if c0_eq (fun w2 => ?_) (fun w2 => ?_)
          · rw [decide_eq_true w2, Bool.and_true, Bool.true_and]
            exact b35
          · rw [decide_eq_false w2, Bool.and_false, Bool.false_and]
            exact WP_some rfl
      · refine WP_if c0_eq (fun _ => ?_) (fun y => absurd rfl y)
        rw [q2, Bool.and_false, Bool.false_and, Bool.false_and]
        exact WP_some rfl
    · refine WP_if c0_eq (fun _ => ?_) (fun y => absurd rfl y)
      rw [q1, Bool.false_and, Bool.false_and, Bool.false_and]
      exact WP_some rfl
  obtain ⟨x, h1, h2⟩ := g
  rw [h1, h2]
/-- the asking that is begun -/
def akQ (a : AA) (c kd k v : Int32) : AK := (fun j => if j = 0 then c else if j = 1 then kd else if j = 2 then aS a 141 0 else if j = 3 then -1 else if j = 5 then -1 else if j = 7 then k else if j = 8 then v else 0, aTp a)
/-- the store when the asking is there and the client waits -/
def akA (b : AA) (p : Nat) (q : AK) : AA := aI (aI (aI (aAdd (aAkS b (aAk b ++ [q])) 141 0 1) 137 p (Int32.ofNat (aAk b).length)) 124 p 1) 129 p 0
theorem KX_add {K : List AK} {q : AK} : KX (fun j => j < K.length) K (K ++ [q]) := by
  refine ⟨by rw [List.length_append]; omega, fun _ h => h, fun j hj => ?_⟩
  unfold kAgr
  rw [getD_app, if_pos hj]
  exact ⟨rfl, rfl, rfl, rfl⟩
theorem RM_akd {τ τ2 : RS} {b : AA} {u : AU} {p : Nat} {q : AK} (h : RM τ b u) (hp : p < 8) (hq : wfK q) (hL : (aAk b).length < 1024) (hw : ∀ x ∈ aWay b, lOK (fun j => j < (aAk b).length) x.2.2) (hwt : ∀ s, s < 7 → ∀ l ∈ aWt b s, lOK (fun j => j < (aAk b).length) l) (hin : ∀ l, u.1.1 = some l → lOK (fun j => j < (aAk b).length) l)
    (hF : Fr [124, 129, 132, 133, 134, 135, 136, 137, 140, 141, 142] [] τ τ2) (v140 : τ2.1 140 0 = Int32.ofNat ((aAk b).length + 1)) (v141 : τ2.1 141 0 = aS b 141 0 + 1) (o142 : ∀ i, i < 6 * (aAk b).length → τ2.1 142 i = τ.1 142 i) (v142 : ∀ x, x < 6 → τ2.1 142 (6 * (aAk b).length + x) = q.1 x)
    (oth : ∀ f, f ∈ [124, 129, 132, 133, 134, 135, 137] → ∀ j, j ≠ p → τ2.1 f j = τ.1 f j) (v124 : τ2.1 124 p = 1) (v129 : τ2.1 129 p = 0) (v137 : τ2.1 137 p = Int32.ofNat (aAk b).length) (v132 : τ2.1 132 p = q.1 1) (v133 : τ2.1 133 p = q.1 7) (v134 : τ2.1 134 p = q.1 8) (v135 : τ2.1 135 p = Int32.ofNat q.2.length)
    (o136 : ∀ i, (i < 400 * p ∨ 400 * p + 400 ≤ i) → τ2.1 136 i = τ.1 136 i) (v136 : ∀ i, i < q.2.length → τ2.1 136 (400 * p + i) = q.2.getD i 0) : RM τ2 (akA b p q) u := by
  obtain ⟨k1, k2, k3, k4⟩ := id (h.2.2.2.2.2.2.2.2.2.2.2.2.2.1)
  have hK : KX (fun j => j < (aAk b).length) (aAk b) (aAk b ++ [q]) := KX_add
  have hsc : RSc τ2 (akA b p q) := by
    have z := RSc_I (f := 129) (i := p) (v := 0) (RSc_I (f := 124) (i := p) (v := 1) (RSc_I (f := 137) (i := p) (v := Int32.ofNat (aAk b).length) (RSc_I (f := 141) (i := 0) (v := aS b 141 0 + 1) (a := aAkS b (aAk b ++ [q])) h.1)))
    refine ⟨fun f hf i hi => (Eq.trans ?_ (z.1 f hf i hi)), ?_, fun s hs => ?_⟩
    · show τ2.1 f i = (if f = 129 ∧ i = p then 0 else if f = 124 ∧ i = p then 1 else if f = 137 ∧ i = p then Int32.ofNat (aAk b).length else if f = 141 ∧ i = 0 then aS b 141 0 + 1 else τ.1 f i)
      by_cases q1 : f = 129 ∧ i = p
      · rw [if_pos q1, q1.1, q1.2]
        exact v129
      rw [if_neg q1]
      by_cases q2 : f = 124 ∧ i = p
      · rw [if_pos q2, q2.1, q2.2]
        exact v124
      rw [if_neg q2]
      by_cases q3 : f = 137 ∧ i = p
      · rw [if_pos q3, q3.1, q3.2]
        exact v137
      rw [if_neg q3]
      by_cases q4 : f = 141 ∧ i = 0
      · rw [if_pos q4, q4.1, q4.2]
        exact v141
      rw [if_neg q4]
      by_cases w : f ∈ [124, 129, 132, 133, 134, 135, 136, 137, 140, 141, 142]
      · have : f = 124 ∨ f = 129 ∨ f = 137 ∨ f = 141 := by
          have hn : ∀ g ∈ [132, 133, 134, 135, 136, 140, 142], g ∉ scF := by decide
          simp only [List.mem_cons, List.not_mem_nil, or_false] at w
          rcases w with rfl | rfl | rfl | rfl | rfl | rfl | rfl | rfl | rfl | rfl | rfl
          · exact Or.inl rfl
          · exact Or.inr (Or.inl rfl)
          · exact absurd hf (hn 132 (by simp))
          · exact absurd hf (hn 133 (by simp))
          · exact absurd hf (hn 134 (by simp))
          · exact absurd hf (hn 135 (by simp))
          · exact absurd hf (hn 136 (by simp))
          · exact Or.inr (Or.inr (Or.inl rfl))
          · exact absurd hf (hn 140 (by simp))
          · exact Or.inr (Or.inr (Or.inr rfl))
          · exact absurd hf (hn 142 (by simp))
        rcases this with rfl | rfl | rfl | rfl
        · exact oth 124 (by simp) i (fun y => q2 ⟨rfl, y⟩)
        · exact oth 129 (by simp) i (fun y => q1 ⟨rfl, y⟩)
        · exact oth 137 (by simp) i (fun y => q3 ⟨rfl, y⟩)
        · exfalso
          rw [show rlen 141 = 0 by decide +kernel] at hi
          exact q4 ⟨rfl, by omega⟩
      · rw [hF.1 f w]
    · rw [hF.2 28 (by simp)]
      exact z.2.1
    · rw [hF.2 84 (by simp)]
      exact z.2.2 s hs
  have hq0 : (aAk b ++ [q]).length = (aAk b).length + 1 := by rw [List.length_append]; rfl
  have hgl : (aAk b ++ [q]).getD (aAk b).length (fun _ => 0, []) = q := by rw [getD_app, if_neg (Nat.lt_irrefl _), if_pos rfl]
  have hak : RAk τ2 (aAk b ++ [q]) := by
    refine ⟨by rw [hq0]; exact v140, by omega, fun k hk => ?_, fun j hj x hx => ?_⟩
    · rcases List.mem_append.mp hk with y | y
      · exact k3 k y
      · rw [List.mem_singleton] at y
        rw [y]
        exact hq
    · rw [hq0] at hj
      by_cases z : j < (aAk b).length
      · rw [getD_app, if_pos z, o142 _ (by omega)]
        exact k4 j z x hx
      · have ej : j = (aAk b).length := by omega
        rw [ej, hgl]
        exact v142 x hx
  have hwn : ∀ c, c < 8 → RWn τ2 (aAk b ++ [q]) (aS (akA b p q) 124 c) (aS (akA b p q) 137 c) c := by
    intro c hc
    have e124 : aS (akA b p q) 124 c = if c = p then 1 else aS b 124 c := by
      show (if 124 = 129 ∧ c = p then (0 : Int32) else if 124 = 124 ∧ c = p then 1 else _) = _
      rw [if_neg (by omega)]
      by_cases z : c = p
      · rw [if_pos ⟨rfl, z⟩, if_pos z]
      · rw [if_neg (fun y => z y.2), if_neg z]
        rfl
    have e137 : aS (akA b p q) 137 c = if c = p then Int32.ofNat (aAk b).length else aS b 137 c := by
      show (if 137 = 129 ∧ c = p then (0 : Int32) else if 137 = 124 ∧ c = p then 1 else if 137 = 137 ∧ c = p then _ else _) = _
      rw [if_neg (by omega), if_neg (by omega)]
      by_cases z : c = p
      · rw [if_pos ⟨rfl, z⟩, if_pos z]
      · rw [if_neg (fun y => z y.2), if_neg z]
        rfl
    rw [e124, e137]
    by_cases z : c = p
    · rw [if_pos z, if_pos z, z]
      right
      refine ⟨?_, ?_, ?_⟩
      · rw [show (0 : Int32) = Int32.ofNat 0 from rfl, i_ltn (by omega) (by omega)]
        omega
      · rw [i_cl (by omega), hq0]
        omega
      · dsimp only
        rw [i_cl (by omega), hgl]
        exact ⟨v132, v133, v134, v135, v136⟩
    · rw [if_neg z, if_neg z]
      have old := RWn_K hK (h.2.2.2.2.2.2.2.2.2.2.2.2.2.2.1 c hc)
      unfold RWn at old ⊢
      refine old.imp id ?_
      rintro ⟨y1, y2, y3⟩
      refine ⟨y1, y2, ?_⟩
      dsimp only at y3 ⊢
      rw [oth 132 (by simp) c z, oth 133 (by simp) c z, oth 134 (by simp) c z, oth 135 (by simp) c z]
      obtain ⟨w1, w2, w3, w4, w5⟩ := y3
      refine ⟨w1, w2, w3, w4, fun i hi => ?_⟩
      have hlen : ((aAk b ++ [q]).getD (aS b 137 c).toNatClampNeg (fun _ => 0, [])).2.length ≤ 400 := by
        have hm : (aAk b ++ [q]).getD (aS b 137 c).toNatClampNeg (fun _ => 0, []) ∈ aAk b ++ [q] := by
          rw [List.getD_eq_getElem?_getD, List.getElem?_eq_getElem y2]
          exact List.getElem_mem _
        exact (hak.2.2.1 _ hm).2.1
      rw [o136 _ (by omega)]
      exact w5 i hi
  exact ⟨hsc, RWay_K hK hw (RWay_fr hF (by decide) h.2.1), fun s hs => RWt_K hK (hwt s hs) (RWt_fr hF (by decide) (h.2.2.1 s hs)), fun l hl => RLt_K hK (hin l hl) (RLt_fr hF (by decide) (h.2.2.2.1 l hl)), fun s hs => RLog_K hK (RLog_fr hF (by decide) (h.2.2.2.2.1 s hs)), fun s hs => RDk_K hK (RDk_fr hF (by decide) (h.2.2.2.2.2.1 s hs)), fun s hs => RSl_fr hF (by decide) (h.2.2.2.2.2.2.1 s hs), fun s hs hu => RCh_fr hF (by decide) (h.2.2.2.2.2.2.2.1 s hs hu), fun s hs hu => RAt_fr hF (by decide) (h.2.2.2.2.2.2.2.2.1 s hs hu), fun s hs => RMc_fr hF (by decide) (h.2.2.2.2.2.2.2.2.2.1 s hs), fun s hs => RSh_fr hF (by decide) (h.2.2.2.2.2.2.2.2.2.2.1 s hs), fun s hs => RPc_fr hF (by decide) (h.2.2.2.2.2.2.2.2.2.2.2.1 s hs), fun s hs => RRq_K hK (RRq_fr hF (by decide) (h.2.2.2.2.2.2.2.2.2.2.2.2.1 s hs)), hak, hwn, RTp_fr hF (by decide) h.2.2.2.2.2.2.2.2.2.2.2.2.2.2.2.1, RRe_fr hF (by decide) h.2.2.2.2.2.2.2.2.2.2.2.2.2.2.2.2.1, fun s hs => RDn_fr hF (by decide) (h.2.2.2.2.2.2.2.2.2.2.2.2.2.2.2.2.2.1 s hs), RSum_fr hF (by decide) h.2.2.2.2.2.2.2.2.2.2.2.2.2.2.2.2.2.2.1, h.2.2.2.2.2.2.2.2.2.2.2.2.2.2.2.2.2.2.2.1, h.2.2.2.2.2.2.2.2.2.2.2.2.2.2.2.2.2.2.2.2.1, h.2.2.2.2.2.2.2.2.2.2.2.2.2.2.2.2.2.2.2.2.2.1, h.2.2.2.2.2.2.2.2.2.2.2.2.2.2.2.2.2.2.2.2.2.2.1, h.2.2.2.2.2.2.2.2.2.2.2.2.2.2.2.2.2.2.2.2.2.2.2⟩
