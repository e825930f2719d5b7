/-! what is on disk is read into the log -/
theorem i_neg1 {n : Nat} (h : n < 1073741824) : Int32.ofNat n - Int32.ofNat (n + 1) = -1 := by
  have h1 : (Int32.ofNat n - Int32.ofNat (n + 1)).toInt = -1 := by
    rw [i_subI (by rw [Int32.toInt_ofNat_of_lt (by omega), Int32.toInt_ofNat_of_lt (by omega)]; omega) (by rw [Int32.toInt_ofNat_of_lt (by omega), Int32.toInt_ofNat_of_lt (by omega)]; omega), Int32.toInt_ofNat_of_lt (by omega), Int32.toInt_ofNat_of_lt (by omega)]
    omega
  exact Int32.toInt_inj.mp (h1.trans (by decide))
theorem getD_take {α : Type} {l : List α} {i n : Nat} {d e : α} (h : i < n) (hl : n ≤ l.length) : (l.take n).getD i d = l.getD i e := by
  rw [List.getD_eq_getElem?_getD, List.getD_eq_getElem?_getD, List.getElem?_take, if_pos h, List.getElem?_eq_getElem (by omega)]
  rfl
theorem tells_e {G : AF} {b n0 : Nat} {T : Int32} (h1 : G.1 2 = Int32.ofNat (n0 + 1)) (hbn : n0 ≤ b) (hb : b < 1073741824) (hw : aWhole G = G.2.1.take (aWhole G).length) (hle : (aWhole G).length ≤ G.2.1.length) (hW : (aWhole G).length < 1073741824) :
    aTells G (Int32.ofNat b) T = (scZ b n0 (decide (n0 = b)) (aWhole G).length && scM G T b n0 (decide (n0 = b ∧ G.1 3 = T)) (aWhole G).length) := by
  unfold aTells
  dsimp only
  rw [h1]
  by_cases q : n0 = b
  · subst q
    rw [i_neg1 (by omega)]
    have c1 : ¬ ((-1 : Int32) < -1 ∨ Int32.ofNat (aWhole G).length ≤ -1) := by
      rintro (z | z)
      · exact absurd z (by decide)
      · exact absurd (Int32.lt_of_le_of_lt z (show (-1 : Int32) < 0 by decide)) (i_nn (by omega))
    rw [if_neg c1, if_pos (by decide)]
    have e1 : scZ n0 n0 (decide (n0 = n0)) (aWhole G).length = true := by
      unfold scZ
      rw [decide_eq_true rfl, Bool.true_or]
    have e2 : scM G T n0 n0 (decide (n0 = n0 ∧ G.1 3 = T)) (aWhole G).length = decide (n0 = n0 ∧ G.1 3 = T) := if_neg (by omega)
    rw [e1, e2, Bool.true_and]
    refine decide_eq_decide.mpr ⟨fun z => ⟨rfl, z.symm⟩, fun z => z.2.symm⟩
  · have e0 : Int32.ofNat b - Int32.ofNat (n0 + 1) = Int32.ofNat (b - (n0 + 1)) := i_subn (by omega)
    rw [e0]
    have ez : scZ b n0 (decide (n0 = b)) (aWhole G).length = decide (b ≤ n0 + (aWhole G).length) := by
      unfold scZ
      rw [decide_eq_false q, Bool.false_or]
      exact decide_eq_decide.mpr ⟨fun z => z.2, fun z => ⟨by omega, z⟩⟩
    rw [ez]
    by_cases q2 : b ≤ n0 + (aWhole G).length
    · have c1 : ¬ (Int32.ofNat (b - (n0 + 1)) < -1 ∨ Int32.ofNat (aWhole G).length ≤ Int32.ofNat (b - (n0 + 1))) := by
        rintro (z | z)
        · exact absurd (Int32.lt_trans z (show (-1 : Int32) < 0 by decide)) (i_nn (by omega))
        · rw [i_ltn (by omega) (by omega)] at z
          omega
      rw [if_neg c1, if_neg (i_nn (by omega)), decide_eq_true q2, Bool.true_and]
      have e2 : scM G T b n0 (decide (n0 = b ∧ G.1 3 = T)) (aWhole G).length = decide ((G.2.1.getD (b - n0 - 1) aE0).1 = T) := if_pos ⟨by omega, q2⟩
      rw [e2]
      have e3 : (Int32.ofNat (b - (n0 + 1))).toNatClampNeg = b - n0 - 1 := by
        show (Int32.ofNat (b - (n0 + 1))).toInt.toNat = _
        rw [Int32.toInt_ofNat_of_lt (by omega)]
        omega
      rw [e3, hw, getD_take (e := aE0) (by omega) hle]
      exact decide_eq_decide.mpr ⟨fun z => z.symm, fun z => z.symm⟩
    · have c1 : (Int32.ofNat (b - (n0 + 1)) < -1 ∨ Int32.ofNat (aWhole G).length ≤ Int32.ofNat (b - (n0 + 1))) := by
        refine Or.inr ?_
        rw [i_ltn (by omega) (by omega)]
        omega
      rw [if_pos c1, decide_eq_false q2, Bool.false_and]
/-- the chain that is taken -/
def rcC (a : AA) (s b : Nat) (T : Int32) : List Nat := match aFirstSeg a s (Int32.ofNat b) aSegs with
  | none => []
  | some f => if aTells (aFc a s f) (Int32.ofNat b) T then aChain a s 12 f else []
theorem M_readLog {F : Nat} {K : List AK} {σ : RS} {a : AA} {s b : Nat} {T : Int32} {Q : RS → Prop} (hF : 1000 ≤ F) (hs : s < 7) (hk : sgOK K σ a s) (e55 : σ.1 55 s = Int32.ofNat b) (e57 : σ.1 57 s = T) (e56 : σ.1 56 s = Int32.ofNat b) (e49 : σ.1 49 s = 0) (hb : b < 1073741824)
    (hmx : ∀ f, aFirstSeg a s (Int32.ofNat b) aSegs = some f → (aLoad a s (Int32.ofNat b) (aChain a s 12 f)).length ≤ 300)
    (fin : ∀ τ', RdE K σ a s b τ' (rcC a s b T) (aLoad a s (Int32.ofNat b) (rcC a s b T)) → WP (m_recoverLog_b569 F τ' (Int32.ofNat s)) Q) :
    WP (m_recoverLog_b24 F F σ (Int32.ofNat s) (-1) 15) Q := by
  have hr : RcS K σ a s b σ [] [] := ⟨fun _ _ _ => rfl, fun _ _ _ => rfl, e49, by decide, fun i hi => absurd hi (Nat.not_lt_zero _), fun g hg => absurd hg (by simp), Lgs_nil, fun g hg => absurd hg (by simp)⟩
  refine seg_first (F := F) hs hk hr e55 (fun n => ?_) 12 F (Nat.le_refl _) (by omega)
  unfold m_recoverLog_b24
  refine WP_if c2_lt (fun _ => ?_) (fun y => absurd (by decide) y)
  obtain ⟨F', rfl⟩ : ∃ F', F = F' + 2 := ⟨F - 2, by omega⟩
  cases hf : aFirstSeg a s (Int32.ofNat b) aSegs with
  | none =>
    have e1 : ftF a s b aSegs = -1 := by
      unfold ftF
      rw [hf]
    have ec : rcC a s b T = [] := by
      unfold rcC
      rw [hf]
    rw [e1]
    refine WP_if c0_ge (fun y => absurd y (by decide)) (fun _ => ?_)
    unfold m_recoverLog_b121
    refine WP_if c0_ge (fun y => absurd y (by decide)) (fun _ => ?_)
    have done : WP (m_recoverLog_b193 (F' + 2) σ (Int32.ofNat s) (-1) 0 0 0) Q := by
      unfold m_recoverLog_b193 m_recoverLog_b194
      refine rd_end (m := false) (z := false) hs hr e56 (fun y => by cases y) ?_ fin
      rw [if_neg (by decide), ec]
      exact ⟨rfl, rfl⟩
    have d2 : WP (m_recoverLog_b172 (F' + 2) σ (Int32.ofNat s) (-1) 0 0) Q := by
      unfold m_recoverLog_b172 m_recoverLog_b173
      refine WP_ld rfl 7 (by decide +kernel) hs ?_
      refine WP_if c2_ne (fun _ => done) (fun _ => ?_)
      exact WP_if c0_lt (fun _ => done) (fun y => absurd (by decide) y)
    unfold m_recoverLog_b141
    refine WP_ld rfl 7 (by decide +kernel) hs ?_
    refine WP_if c2_ne (fun _ => d2) (fun _ => ?_)
    exact WP_if c0_lt (fun _ => d2) (fun y => absurd (by decide) y)
  | some f =>
    have e1 : ftF a s b aSegs = Int32.ofNat f := by
      unfold ftF
      rw [hf]
    have ec : rcC a s b T = if aTells (aFc a s f) (Int32.ofNat b) T then aChain a s 12 f else [] := by
      unfold rcC
      rw [hf]
    obtain ⟨i1, i2, i3, i4⟩ := first_mem hf
    obtain ⟨h4, h16⟩ := seg_mem.mp i1
    obtain ⟨⟨S, hS⟩, k6, k7, k8⟩ := (hk f h4 h16).2.2.2.2 i2
    obtain ⟨w1, w2, w3, w4⟩ := seg_whole hS
    obtain ⟨rd1, rd2⟩ := seg_head hS rfl
    obtain ⟨n0, hn0⟩ : ∃ n0, fsN a s f = n0 + 1 := ⟨fsN a s f - 1, by omega⟩
    have hbn : n0 ≤ b := by
      rw [k6, hn0, i_s, i_ltn (by omega) (by omega)] at i3
      omega
    have k6' : (aFc a s f).1 2 = Int32.ofNat (n0 + 1) := by rw [k6, hn0]
    have hmx' := hmx f hf
    rw [aChain_s, aLoad_c hk h4 h16 i2 hn0.symm hb, List.length_append, List.length_drop] at hmx'
    have tl := tells_e (T := T) k6' hbn hb w4 w1 (by omega)
    rw [e1]
    refine WP_if c0_ge (fun _ => ?_) (fun y => absurd (Int32.not_lt.mp (i_nn (by omega))) y)
    refine WP_eq m_fileOf_n (WP_eq rd1 ?_)
    rw [k6', show Int32.ofNat (n0 + 1) - (1 : Int32) = Int32.ofNat n0 from i_subn (q := 1) (by omega)]
    unfold m_recoverLog_b121
    refine WP_if c0_ge (fun _ => ?_) (fun y => absurd (Int32.not_lt.mp (i_nn (by omega))) y)
    refine WP_eq m_fileOf_n (WP_eq rd2 ?_)
    -- the segment itself
    have main : WP (m_recoverLog_b196 (F' + 2) (F' + 2) σ (Int32.ofNat s) (Int32.ofNat f) (Int32.ofNat n0) ((aFc a s f).1 3) (aB (decide (n0 = b ∧ (aFc a s f).1 3 = T))) (aB (decide (n0 = b)))) Q := by
      refine chain_file (T := T) hF hs hk hr (by decide) h4 h16 i2 (by simp) hn0.symm (fun g hg => by cases hg) e55 e57 hb (show 0 = n0 - b by omega) (by show n0 + (aWhole (aFc a s f)).length ≤ _; omega) (fun τ2 hr2 => ?_)
      rw [List.nil_append] at hr2
      have hL1 : (scL K (aFc a s f) b n0 [] (wlN a s f)).length = n0 + wlN a s f - b := scL_len (show 0 = n0 - b by omega)
      have hfst : (scL K (aFc a s f) b n0 [] (wlN a s f)).map Prod.fst = (aWhole (aFc a s f)).drop (b - n0) := by
        rw [scL_fst (show wlN a s f ≤ _ from w1)]
        show ((aFc a s f).2.1.take (wlN a s f)).drop (b - n0) = _
        exact congrArg _ w4.symm
      have tl : aTells (aFc a s f) (Int32.ofNat b) T = (scZ b n0 (decide (n0 = b)) (wlN a s f) && scM (aFc a s f) T b n0 (decide (n0 = b ∧ (aFc a s f).1 3 = T)) (wlN a s f)) := tl
      have hz : scZ b n0 (decide (n0 = b)) (wlN a s f) = true → b ≤ n0 + wlN a s f := by
        unfold scZ
        rw [Bool.or_eq_true, decide_eq_true_eq, decide_eq_true_eq]
        omega
      have hW : (aWhole (aFc a s f)).length = wlN a s f := rfl
      generalize scM (aFc a s f) T b n0 (decide (n0 = b ∧ (aFc a s f).1 3 = T)) (wlN a s f) = m1 at tl ⊢
      generalize scZ b n0 (decide (n0 = b)) (wlN a s f) = z1 at tl hz ⊢
      generalize scL K (aFc a s f) b n0 [] (wlN a s f) = L1 at hr2 hL1 hfst
      have stop : chNx a s 11 f = [] → WP (m_recoverLog_b196 (F' + 2) (F' + 1) τ2 (Int32.ofNat s) (-1) (Int32.ofNat (n0 + wlN a s f)) (scT (aFc a s f) ((aFc a s f).1 3) (wlN a s f)) (aB m1) (aB z1)) Q := by
        intro hc
        refine rd_end hs hr2 e56 (fun y => ?_) ?_ fin
        · have := hz y
          rw [hL1, show b + (n0 + wlN a s f - b) = n0 + wlN a s f by omega]
        · rw [ec, tl, aChain_s, hc]
          by_cases q : (z1 && m1) = true
          · rw [if_pos q, if_pos q]
            refine ⟨rfl, ?_⟩
            rw [aLoad_c hk h4 h16 i2 hn0.symm hb, hfst]
            exact List.append_nil _
          · rw [if_neg q, if_neg q]
            exact ⟨rfl, rfl⟩
      by_cases q0 : wlN a s f = 0
      · rw [if_pos q0]
        refine stop ?_
        unfold chNx
        have : aWhole (aFc a s f) = [] := List.eq_nil_of_length_eq_zero q0
        rw [this]
        rfl
      · rw [if_neg q0]
        have elast : (aWhole (aFc a s f)).getLast? = some ((aFc a s f).2.1.getD (wlN a s f - 1) aE0) := by
          rw [List.getLast?_eq_getElem?, hW]
          rw [w4, List.getElem?_take, if_pos (by omega), List.getD_eq_getElem?_getD, List.getElem?_eq_getElem (by omega)]
          rfl
        have eT : scT (aFc a s f) ((aFc a s f).1 3) (wlN a s f) = ((aFc a s f).2.1.getD (wlN a s f - 1) aE0).1 := if_neg q0
        have eN : (aFc a s f).1 2 + Int32.ofNat (wlN a s f) = Int32.ofNat (n0 + wlN a s f) + 1 := by
          rw [k6', i_ad, i_s, show n0 + 1 + wlN a s f = n0 + wlN a s f + 1 by omega]
        have eX : chNx a s 11 f = match aSegAt a s (Int32.ofNat (n0 + wlN a s f) + 1) (scT (aFc a s f) ((aFc a s f).1 3) (wlN a s f)) with
          | none => []
          | some g => aChain a s 11 g := by
          unfold chNx
          rw [elast, eT, ← eN]
          rfl
        unfold nxF
        cases hsa : aSegAt a s (Int32.ofNat (n0 + wlN a s f) + 1) (scT (aFc a s f) ((aFc a s f).1 3) (wlN a s f)) with
        | none =>
          rw [hsa] at eX
          exact stop eX
        | some g =>
          rw [hsa] at eX
          dsimp only at eX ⊢
          obtain ⟨s1, s2, s3, s4, s5⟩ := segAt_spec hsa
          obtain ⟨_, g6, g7, g8⟩ := (hk g s1 s2).2.2.2.2 s3
          have hg : n0 + wlN a s f + 1 = fsN a s g := by
            rw [g6, i_s, i_eqi (by omega) (by omega)] at s4
            exact s4.symm
          have hbW : b ≤ n0 + wlN a s f := by
            refine Classical.byContradiction (fun q => ?_)
            have h1 := i4 g (seg_mem.mpr ⟨s1, s2⟩) s3 (by rw [g6, i_s, i_ltn (by omega) (by omega)]; omega)
            rw [g6, k6', i_ltn (by omega) (by omega)] at h1
            omega
          have hmx2 : L1.length + (aLoad a s (Int32.ofNat b) (aChain a s 11 g)).length ≤ 300 := by
            rw [eX] at hmx'
            omega
          refine chain_loop (T := T) hF hs hk e55 e57 hb 11 [f] g (n0 + wlN a s f) (F' + 1) _ L1 τ2 rfl (by omega) ?_ (fun x hx => ?_) s1 s2 s3 hg hbW hL1 hmx2 hr2 ?_
          · show [f, g].Nodup
            rw [List.nodup_cons]
            refine ⟨fun y => ?_, by simp⟩
            rw [List.mem_singleton] at y
            rw [← y] at hg
            omega
          · rw [List.mem_singleton] at hx
            rw [hx]
            exact ⟨h4, h16, by omega, by omega⟩
          · intro n2 τ3 L3 t3 hr3 he3
            refine rd_end hs hr3 e56 (fun _ => rfl) ?_ fin
            rw [ec, tl, aChain_s, eX]
            by_cases q : (z1 && m1) = true
            · rw [if_pos q, if_pos q]
              refine ⟨rfl, ?_⟩
              rw [aLoad_c hk h4 h16 i2 hn0.symm hb, he3, hfst]
            · rw [if_neg q, if_neg q]
              exact ⟨rfl, rfl⟩
    have B1 : ∀ (q : Bool), (q = decide (n0 = b ∧ (aFc a s f).1 3 = T)) → WP (m_recoverLog_b173 (F' + 2) σ (aB q) (Int32.ofNat s) (Int32.ofNat f) (Int32.ofNat n0) ((aFc a s f).1 3)) Q := by
      intro q hq
      rw [← hq] at main
      unfold m_recoverLog_b173
      refine WP_ld rfl 7 (by decide +kernel) hs ?_
      rw [e55]
      refine WP_if c2_ne (fun y => ?_) (fun y => ?_)
      · rw [i_eqi (by omega) (by omega)] at y
        rw [decide_eq_false y] at main
        exact main
      · rw [Classical.not_not, i_eqi (by omega) (by omega)] at y
        rw [decide_eq_true y] at main
        refine WP_if c0_lt (fun y => absurd y (i_nn (by omega))) (fun _ => ?_)
        exact main
    unfold m_recoverLog_b141
    refine WP_ld rfl 7 (by decide +kernel) hs ?_
    rw [e55]
    refine WP_if c2_ne (fun y => ?_) (fun y => ?_)
    · rw [i_eqi (by omega) (by omega)] at y
      exact B1 false (decide_eq_false (fun z => y z.1)).symm
    · rw [Classical.not_not, i_eqi (by omega) (by omega)] at y
      refine WP_if c0_lt (fun y => absurd y (i_nn (by omega))) (fun _ => ?_)
      refine WP_ld rfl 7 (by decide +kernel) hs ?_
      rw [e57]
      refine WP_if c2_ne (fun z => ?_) (fun z => ?_)
      · exact B1 false (decide_eq_false (fun w => z w.2)).symm
      · exact B1 true (decide_eq_true ⟨y, Classical.not_not.mp z⟩).symm
