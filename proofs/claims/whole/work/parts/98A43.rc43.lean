/-! reads are answered -/
theorem K_slotOf {c : CS} {n : Nat} : k_Requests_slotOf c (Int32.ofNat n) = some (Int32.ofNat (n % 32)) := by
  unfold k_Requests_slotOf k_Requests_slotOf_b0
  rw [slot_31]
/-- a request as it may wait -/
def rqC (K : List AK) (q : AQ) : Prop := aInR (q 1) 8 15 = true ∧ (¬ q 6 = -1 → ∃ j n, q 3 = Int32.ofNat j ∧ j < K.length ∧ (K.getD j (fun _ => 0, [])).1 7 = Int32.ofNat n ∧ n ≤ (K.getD j (fun _ => 0, [])).2.length)
theorem aQuery_l {M : AM} {k : AK} (w : wfM M) : (aQuery M k).length ≤ 134 := by
  unfold aQuery
  dsimp only
  by_cases k3 : k.1 1 = 3
  · rw [if_pos k3, aFind_e]
    by_cases z : aRank M (k.2.take (k.1 7).toNatClampNeg) < M.2.length
    · rw [if_pos z]
      by_cases y : aCmp (M.2.getD (aRank M (k.2.take (k.1 7).toNatClampNeg)) ([], [])).1 (k.2.take (k.1 7).toNatClampNeg) = 0
      · rw [if_pos y]
        have hm : M.2.getD (aRank M (k.2.take (k.1 7).toNatClampNeg)) ([], []) ∈ M.2 := by
          rw [getD_g z]
          exact List.getElem_mem _
        have := (w.2.2.2 _ hm).2.1
        show (1 :: (M.2.getD (aRank M (k.2.take (k.1 7).toNatClampNeg)) ([], [])).2).length ≤ 134
        rw [List.length_cons]
        omega
      · rw [if_neg y]
        decide
    · rw [if_neg z]
      decide
  · rw [if_neg k3]
    by_cases k4 : k.1 1 = 4
    · rw [if_pos k4]
      show 2 ≤ 134
      omega
    · rw [if_neg k4]
      by_cases z : aRank M (k.2.take (k.1 7).toNatClampNeg) < M.2.length
      · rw [List.getElem?_eq_getElem z]
        have := w.2.2.2 _ (List.getElem_mem z)
        generalize M.2[aRank M (k.2.take (k.1 7).toNatClampNeg)] = e at this
        show (e.1 ++ e.2).length + 1 + 1 ≤ 134
        rw [List.length_append]
        omega
      · rw [List.getElem?_eq_none (by omega)]
        decide
theorem cmax_pre {b : Nat} (hb : b < 2147483648) : cmax 0 (Int32.ofNat b - 32) = Int32.ofNat (b - 32) := by
  by_cases z : 32 ≤ b
  · rw [show (32 : Int32) = Int32.ofNat 32 from rfl, i_subn z, cmax_0 (by omega)]
  · have e : (Int32.ofNat b - 32).toInt = (b : Int) - 32 := by
      rw [i_subI (by rw [Int32.toInt_ofNat_of_lt (by omega), show (32 : Int32).toInt = 32 by decide]; omega) (by rw [Int32.toInt_ofNat_of_lt (by omega), show (32 : Int32).toInt = 32 by decide]; omega), Int32.toInt_ofNat_of_lt (by omega), show (32 : Int32).toInt = 32 by decide]
    unfold cmax
    rw [if_neg (by rw [Int32.lt_iff_toInt_lt, e, i_0]; omega), show b - 32 = 0 by omega]
    rfl
theorem KRq_len {c : CS} {s : Nat} {n : Int32} {rq : List AQ} (h : KRq c s n rq) : rq.length ≤ 32 := by
  obtain ⟨b, b1, b2, b3, b4, b5, b6⟩ := h
  have hn : (rq.map (fun x => qN x % 32)).Nodup := by
    rw [List.nodup_iff_pairwise_ne, List.pairwise_map]
    have hp : rq.Pairwise (fun x y => qN x < qN y) := List.pairwise_map.mp b3
    refine (hp.imp_of_mem ?_)
    intro x y hx hy hxy e
    obtain ⟨_, y2, y3, _⟩ := b4 x hx
    obtain ⟨_, z2, z3, _⟩ := b4 y hy
    have := rq_mod y2 y3 z2 z3 e
    omega
  have hs2 : (rq.map (fun x => qN x % 32)) ⊆ List.range 32 := by
    intro u hu2
    obtain ⟨x, _, e⟩ := List.mem_map.mp hu2
    rw [List.mem_range, ← e]
    exact Nat.mod_lt _ (by omega)
  have := List.Nodup.length_le_of_subset hn hs2
  rw [List.length_map, List.length_range] at this
  exact this
theorem K_answerReads {F : Nat} {c : CS} {a : AA} {s : Nat} {H : List (Nat × Option AL)} {U : Nat → Int32} {N : Nat × Nat} (hF : 200 ≤ F) (h : RC c a ((H, U), N)) (hs : s < 7) (hu : aS a 52 s = 1) (hr : ¬ aS a 73 s = 3 → aRq a s = []) (hmx : (aS a 151 s).toInt < 2147483000) (hrq : ∀ q ∈ aRq a s, rqC (aAk a) q) (hst : srtM (aMc a s)) (ho : aS a 73 s = 3 → ∃ p, p < 7 ∧ aIn (aOldM (aS a 65 s)) p = true) (h0 : aS a 73 s = 3 → ∀ p, p < 7 → 0 ≤ aS a 91 (7 * s + p)) (hH : H.length ≤ 5) : WP (k_Server_answerReads F c s) (fun c' => RC c' (A_answerReads a s) ((H, U), N)) := by
  obtain ⟨b, e1, e1', e3, e4, e5, e6⟩ := h.2.2.2.2.1 s hs hu
  have hbb : b < 2147483000 := by
    rw [e1, Int32.toInt_ofNat_of_lt e1'] at hmx
    omega
  generalize hc : aCommon (aS a 65 s) (fun p => aS a 91 (7 * s + p)) 7 = cc
  have key : ∀ n i (c : CS) (a' : AA) (R : List AQ), b + 1 ≤ i + n → i ≤ b → b ≤ i + 32 → RC c a' ((H, U), N) → aS a' 151 s = Int32.ofNat b → aS a' 52 s = 1 → aAk a' = aAk a → aMc a' s = aMc a s → (∀ q ∈ aRq a' s, q ∈ aRq a s) → (∀ q ∈ R, q ∈ aRq a' s ∧ i ≤ qN q) → (∀ q ∈ aRq a' s, i ≤ qN q → q ∈ R) → (R.map qN).Pairwise (· < ·) → WP (k_Server_answerReads_b52 F n c s cc (Int32.ofNat i)) (fun c' => RC c' (aReads s cc R a') ((H, U), N)) := by
    intro n
    induction n with
    | zero => intro i c a' R h1 h2; omega
    | succ n ih =>
      intro i c a' R h1 h2 hb32 hτ h151 h52 hak hmc hsub hR1 hR2 hR3
      obtain ⟨b', f1, f1', f3, f4, f5, f6⟩ := hτ.2.2.2.2.1 s hs h52
      have hb' : b' = b := by
        rw [h151] at f1
        exact ((i_eqi (by omega) (by omega)).mp f1).symm
      subst hb'
      have e7 : cI c 12 s 7 0 = Int32.ofNat b' := (K_r hτ (F := 151) (cl := 12) (f := 7) (by decide) hs).trans h151
      unfold k_Server_answerReads_b52
      dsimp only
      rw [e7, K_slotOf]
      refine WP_if (i_gei (by omega) (by omega)) (fun y => ?_) (fun y => ?_)
      · have : R = [] := by
          cases R with
          | nil => rfl
          | cons q r =>
            obtain ⟨x1, x2⟩ := hR1 q List.mem_cons_self
            have := (f4 q x1).2.1
            omega
        rw [this]
        exact WP_some hτ
      · have hib : i < b' := by omega
        refine WP_b ?_
        have hw : i % 32 < 32 := Nat.mod_lt _ (by omega)
        have next : ∀ (c2 : CS) (a2 : AA) (R' : List AQ), RC c2 a2 ((H, U), N) → aS a2 151 s = Int32.ofNat b' → aS a2 52 s = 1 → aAk a2 = aAk a → aMc a2 s = aMc a s → (∀ q ∈ aRq a2 s, q ∈ aRq a s) → (∀ q ∈ R', q ∈ aRq a2 s ∧ i + 1 ≤ qN q) → (∀ q ∈ aRq a2 s, i + 1 ≤ qN q → q ∈ R') → (R'.map qN).Pairwise (· < ·) → WP (k_Server_answerReads_b198 F (k_Server_answerReads_b52 F n) c2 s cc (Int32.ofNat i)) (fun c' => RC c' (aReads s cc R' a2) ((H, U), N)) := by
          intro c2 a2 R' g1 g2 g3 g4 g5 g6 g7 g8 g9
          unfold k_Server_answerReads_b198
          rw [i_s]
          exact ih (i + 1) c2 a2 R' (by omega) (by omega) (by omega) g1 g2 g3 g4 g5 g6 g7 g8 g9
        have skip : (∀ q ∈ R, qN q ≠ i) → WP (k_Server_answerReads_b198 F (k_Server_answerReads_b52 F n) c s cc (Int32.ofNat i)) (fun c' => RC c' (aReads s cc R a') ((H, U), N)) := by
          intro hn
          refine next c a' R hτ h151 h52 hak hmc hsub (fun q hq => ⟨(hR1 q hq).1, ?_⟩) (fun q hq hb => hR2 q hq (by omega)) hR3
          have := (hR1 q hq).2
          have := hn q hq
          omega
        refine WP_eq (crd_n rfl (show i % 32 < 32 from hw) (by omega)) ?_
        rw [f5 _ hw]
        by_cases hin : i % 32 ∈ (aRq a' s).map (fun q => qN q % 32)
        · rw [if_pos hin]
          refine WP_if c0_eq (fun z => absurd z (by decide)) (fun _ => ?_)
          obtain ⟨q, hq, eq⟩ := List.mem_map.mp hin
          obtain ⟨q1, q2, q3, p1, p2, p3, p4, p5, p6⟩ := f4 q hq
          have eq : qN q % 32 = i % 32 := eq
          rw [eq] at p1 p2 p3 p4 p5 p6
          refine WP_eq (crd_n rfl (show i % 32 < 32 from hw) (by omega)) ?_
          rw [p6]
          by_cases hj : qN q = i
          · have hqR := hR2 q hq (by omega)
            obtain ⟨R', hR'⟩ : ∃ R', R = q :: R' := by
              cases hRR : R with
              | nil =>
                rw [hRR] at hqR
                exact absurd hqR List.not_mem_nil
              | cons x r =>
                rw [hRR] at hqR hR3
                rcases List.mem_cons.mp hqR with z | z
                · exact ⟨r, by rw [z]⟩
                · have hx := (hR1 x (by rw [hRR]; exact List.mem_cons_self)).2
                  have := (List.pairwise_cons.mp hR3).1 (qN q) (List.mem_map.mpr ⟨q, z, rfl⟩)
                  omega
            subst hR'
            have hR3' := (List.pairwise_cons.mp hR3)
            have hlater : ∀ x ∈ R', i + 1 ≤ qN x := by
              intro x hx
              have := hR3'.1 _ (List.mem_map.mpr ⟨x, hx, rfl⟩)
              omega
            have pass : aReads s cc (q :: R') a' = aReads s cc R' a' → WP (k_Server_answerReads_b198 F (k_Server_answerReads_b52 F n) c s cc (Int32.ofNat i)) (fun c' => RC c' (aReads s cc (q :: R') a') ((H, U), N)) := by
              intro he
              rw [he]
              refine next c a' R' hτ h151 h52 hak hmc hsub (fun x hx => ⟨(hR1 x (List.mem_cons_of_mem _ hx)).1, hlater x hx⟩) (fun x hx hb => ?_) hR3'.2
              rcases List.mem_cons.mp (hR2 x hx (by omega)) with z | z
              · rw [z] at hb
                omega
              · exact z
            unfold k_Server_answerReads_b97 k_Server_answerReads_b98
            by_cases h6 : q 6 = -1
            · rw [if_pos (c2_eq.mpr h6), if_pos (show xc0 .eq (0 : Int32) = true by decide)]
              exact pass (if_neg (fun z => z.1 h6))
            · rw [if_neg (fun z => h6 (c2_eq.mp z)), if_neg (show ¬ xc0 .eq (1 : Int32) = true by decide)]
              refine WP_eq (crd_n rfl (show i % 32 < 32 from hw) (by omega)) ?_
              rw [p4, K_r hτ (F := 76) (cl := 9) (f := 10) (by decide) hs]
              refine WP_if c2_gt (fun z => pass (if_neg (fun y => i_nle.mpr z y.2.1))) (fun z => ?_)
              have z := i_nlt.mp z
              refine WP_eq (crd_n rfl (show i % 32 < 32 from hw) (by omega)) ?_
              rw [p6]
              refine WP_if c2_gt (fun z2 => pass (if_neg (fun y => i_nle.mpr z2 y.2.2))) (fun z2 => ?_)
              have z2 := i_nlt.mp z2
              have hgo : aReads s cc (q :: R') a' = aReads s cc R' (aReply (aRqS a' s ((aRq a' s).filter (fun x => !decide (x 0 = q 0)))) s q 0 (aS a' 76 s) (aQuery (aMc a' s) ((aAk a').getD (q 3).toNatClampNeg (fun _ => 0, [])))) := if_pos ⟨h6, z, z2⟩
              rw [hgo]
              obtain ⟨r1, r2⟩ := hrq q (hsub q hq)
              obtain ⟨j, m, j1, j2, j3, j4⟩ := r2 h6
              have j5 : j < 2147483648 := by
                have := (hτ.2.2.2.2.2.2.2.2.2.2.2.2.2.2.2.1).2.1
                rw [hak] at this
                omega
              have ed := K_drop1 hτ hs h52 hq
              rw [eq] at ed
              refine WP_call ed (fun c1 h1 => ?_)
              obtain ⟨h1, hsm⟩ := h1
              have k3 : cI c1 12 s 3 (i % 32) = Int32.ofNat j := ((hsm 12 s 3 (fun y => absurd y.2.2 (by decide))).1 _).trans (p3.trans j1)
              refine WP_eq (crd_n rfl (show i % 32 < 32 from hw) (by omega)) ?_
              rw [k3]
              have hj1 : j < (aAk (aRqS a' s ((aRq a' s).filter (fun x => !decide (x 0 = q 0))))).length := by
                show j < (aAk a').length
                rw [hak]
                exact j2
              have hj3 : ((aAk (aRqS a' s ((aRq a' s).filter (fun x => !decide (x 0 = q 0))))).getD j (fun _ => 0, [])).1 7 = Int32.ofNat m := by
                show ((aAk a').getD j (fun _ => 0, [])).1 7 = _
                rw [hak]
                exact j3
              have hj4 : m ≤ ((aAk (aRqS a' s ((aRq a' s).filter (fun x => !decide (x 0 = q 0))))).getD j (fun _ => 0, [])).2.length := by
                show m ≤ ((aAk a').getD j (fun _ => 0, [])).2.length
                rw [hak]
                exact j4
              refine WP_call (K_look hF h1 hs hj1 hj3 hj4 (by show srtM (aMc a' s); rw [hmc]; exact hst)) (fun c2 h2 => ?_)
              obtain ⟨h2, ⟨ha1, ha2⟩, P⟩ := h2
              have o12 : ∀ f, cI c2 12 s f (i % 32) = cI c1 12 s f (i % 32) := fun f => (P.1 12 s f (fun y => absurd y.1 (by decide))).1 _
              have k1 : cI c2 12 s 1 (i % 32) = q 1 := (o12 1).trans (((hsm 12 s 1 (fun y => absurd y.2.2 (by decide))).1 _).trans p1)
              have k2 : cI c2 12 s 2 (i % 32) = q 2 := (o12 2).trans (((hsm 12 s 2 (fun y => absurd y.2.2 (by decide))).1 _).trans p2)
              refine WP_eq (crd_n rfl (show i % 32 < 32 from hw) (by omega)) (WP_eq (crd_n rfl (show i % 32 < 32 from hw) (by omega)) ?_)
              rw [k1, k2, K_r h2 (F := 76) (cl := 9) (f := 10) (by decide) hs, ha1]
              have e76 : aS (aRqS a' s ((aRq a' s).filter (fun x => !decide (x 0 = q 0)))) 76 s = aS a' 76 s := rfl
              have eak : aAk (aRqS a' s ((aRq a' s).filter (fun x => !decide (x 0 = q 0)))) = aAk a' := rfl
              have emc : aMc (aRqS a' s ((aRq a' s).filter (fun x => !decide (x 0 = q 0)))) s = aMc a' s := rfl
              have ecl : (q 3).toNatClampNeg = j := i_clx j1 j5
              have hlen := aQuery_l (k := (aAk a').getD j (fun _ => 0, [])) (hτ.2.2.2.2.2.2.2.2.2.2.2.1 s hs).1.1
              rw [eak, emc] at ha1 ha2
              rw [eak, emc, e76, ecl]
              refine WP_call (K_reply (by omega) h2 hs (Or.inr r1) hlen ha2 hH) (fun c3 h3 => ?_)
              have fr := @AFr_reply (aRqS a' s ((aRq a' s).filter (fun x => !decide (x 0 = q 0)))) s q 0 (aS a' 76 s) (aQuery (aMc a' s) ((aAk a').getD j (fun _ => 0, [])))
              generalize aReply (aRqS a' s ((aRq a' s).filter (fun x => !decide (x 0 = q 0)))) s q 0 (aS a' 76 s) (aQuery (aMc a' s) ((aAk a').getD j (fun _ => 0, []))) = X at h3 fr
              have erq : aRq X s = (aRq a' s).filter (fun x => !decide (x 0 = q 0)) := by
                rw [fr.2.2.2.2.2.2.2.2.2.2.1 (by decide)]
                exact if_pos rfl
              refine next c3 X R' h3 (by rw [fr.1 151 (by decide)]; exact h151) (by rw [fr.1 52 (by decide)]; exact h52) ?_ ?_ (fun x hx => ?_) (fun x hx => ?_) (fun x hx hb => ?_) hR3'.2
              · rw [fr.2.2.2.2.2.2.2.2.2.2.2.1 (by decide)]
                exact hak
              · rw [fr.2.2.2.2.1 (by decide)]
                exact hmc
              · rw [erq] at hx
                exact hsub x (List.mem_filter.mp hx).1
              · have hx1 := (hR1 x (List.mem_cons_of_mem _ hx)).1
                have hl := hlater x hx
                refine ⟨?_, hl⟩
                rw [erq]
                refine List.mem_filter.mpr ⟨hx1, ?_⟩
                have : x 0 ≠ q 0 := by
                  intro y
                  have : qN x = qN q := by unfold qN; rw [y]
                  omega
                simpa using this
              · rw [erq] at hx
                obtain ⟨hx1, hx2⟩ := List.mem_filter.mp hx
                rcases List.mem_cons.mp (hR2 x hx1 (by omega)) with z | z
                · rw [z] at hb
                  omega
                · exact z
          · -- it lies in the slot, but its number is another: it is not in reach here
            exfalso
            omega
        · rw [if_neg hin]
          refine WP_if c0_eq (fun _ => ?_) (fun z => absurd rfl z)
          unfold k_Server_answerReads_b97 k_Server_answerReads_b98
          rw [if_pos (show xc0 .eq (0 : Int32) = true by decide)]
          refine skip (fun q hq hz => hin ?_)
          refine List.mem_map.mpr ⟨q, (hR1 q hq).1, ?_⟩
          show qN q % 32 = _
          rw [hz]
  unfold k_Server_answerReads k_Server_answerReads_b0 A_answerReads
  rw [hc, K_r h (F := 73) (cl := 13) (f := 12) (by decide) hs]
  refine WP_if c2_ne (fun z => ?_) (fun z => ?_)
  · unfold k_Server_answerReads_b18
    rw [hr z]
    exact WP_some h
  · have z : aS a 73 s = 3 := Classical.not_not.mp z
    rw [e6]
    refine WP_if c0_ne (fun y => ?_) (fun y => ?_)
    · have hx : ∀ p, p < 7 → cI c 7 s 4 p = (fun p => aS a 91 (7 * s + p)) p := fun p hp => K_ld h hs z (F := 91) (by decide) hp
      rw [K_r h (F := 65) (cl := 9) (f := 7) (by decide) hs]
      refine WP_eq (K_most4 (by omega) hx (ho z) (h0 z)) ?_
      have e7 : cI c 12 s 7 0 = Int32.ofNat b := (K_r h (F := 151) (cl := 12) (f := 7) (by decide) hs).trans e1
      rw [hc, e7, cmax_pre (by omega)]
      refine key F (b - 32) c a (aRq a s) (by omega) (by omega) (by omega) h e1 hu rfl rfl (fun _ hq => hq) (fun q hq => ⟨hq, ?_⟩) (fun q hq _ => hq) e3
      have := (e4 q hq).2.2.1
      omega
    · have e0 : aRq a s = [] := by
        have y : Int32.ofNat (aRq a s).length = 0 := Classical.not_not.mp y
        have hlen : (aRq a s).length ≤ 32 := KRq_len ⟨b, e1, e1', e3, e4, e5, e6⟩
        have := (i_eqi (q := 0) (by omega) (by omega)).mp y
        exact List.eq_nil_of_length_eq_zero this
      unfold k_Server_answerReads_b18
      rw [e0]
      exact WP_some h
