/-! reads -/
theorem say_32 {n : Nat} (h : n < 128) : aLow8 (Int32.ofNat n) = Int32.ofNat n := (low_nat h).1
theorem low_and {x : Int32} : aLow8 (x &&& 255) = aLow8 x := by
  apply and255 aLow8_i aLow8_i
  apply Int32.toBitVec_inj.mp
  apply BitVec.eq_of_getLsbD_eq
  intro i hi
  rw [m255_bit, m255_bit]
  by_cases q : i < 8
  · rw [lo_bit q, lo_bit q, m255_bit, decide_eq_true q]
    simp
  · rw [decide_eq_false q]
    simp
theorem q223 {F : Nat} {σ : RS} {q : Nat} {l w v : List Int32} (hF : 400 ≤ F) (hq : q < 896) (bw : ∀ b ∈ w, aLow8 b = b) (hw : w.length ≤ 32) (bv : ∀ b ∈ v, aLow8 b = b) (hv : v.length ≤ 100) (hl : l.length ≤ 4) (e1 : σ.1 114 q = Int32.ofNat w.length) (e2 : ∀ j, j < w.length → σ.1 116 (32 * q + j) = w.getD j 0) (e3 : σ.1 115 q = Int32.ofNat v.length) (e4 : ∀ j, j < v.length → σ.1 117 (100 * q + j) = v.getD j 0) :
    ∀ n j τ, w.length + 1 ≤ j + n → j ≤ w.length → SLa σ τ → An τ (l ++ w.take j) → WP (m_query_b223 F n τ (Int32.ofNat q) (Int32.ofNat j)) (fun τ' => SLa σ τ' ∧ An τ' (l ++ (w ++ v))) := by
  intro n
  induction n with
  | zero => intro j τ h1 h2; omega
  | succ n ih =>
    intro j τ h1 h2 g1 g2
    unfold m_query_b223 m_query_b264
    refine WP_ld rfl 896 (by decide +kernel) hq ?_
    rw [g1.1 114 (by decide) (by decide), e1]
    refine WP_if (i_gei (by omega) (by omega)) (fun y => ?_) (fun y => ?_)
    · have : j = w.length := by omega
      subst this
      rw [List.take_length] at g2
      refine WP_call (An_tell hF g2 hq (by rw [g1.1 115 (by decide) (by decide)]; exact e3) (by rw [g1.1 117 (by decide) (by decide)]; exact e4) bv hv (by rw [List.length_append]; omega)) (fun p hp => ?_)
      rw [List.append_assoc] at hp
      exact WP_some ⟨SLa_t g1 hp.1, hp.2⟩
    · refine WP_ld (n := 32 * q + j) i_ma 28672 (by decide +kernel) (by omega) ?_
      rw [g1.1 116 (by decide) (by decide), e2 j (by omega)]
      refine WP_call (An_say g2 (by rw [List.length_append, List.length_take]; omega)) (fun p hp => ?_)
      rw [i_s]
      refine ih (j + 1) p (by omega) (by omega) (SLa_t g1 hp.1) ?_
      have hb : aLow8 (w.getD j 0) = w.getD j 0 := by
        rw [List.getD_eq_getElem?_getD, List.getElem?_eq_getElem (by omega)]
        exact bw _ (List.getElem_mem _)
      have := hp.2
      rw [hb, List.append_assoc, ← take_s (by omega)] at this
      exact this
theorem m_query_n {F : Nat} {σ : RS} {s w : Nat} {M : AM} {k : AK} {ap : Int32} (hF : 400 ≤ F) (hs : s < 7) (hw : w < 224) (h : RMc σ s M) (hk : wfK k) (hk3 : 3 ≤ k.1 1 ∧ k.1 1 ≤ 5) (h76 : σ.1 76 s = ap) (h102 : σ.1 102 w = k.1 1) (h103 : σ.1 103 w = k.1 7) (h104 : σ.1 104 w = Int32.ofNat k.2.length) (hk64 : k.2.length ≤ 64) (h105 : ∀ i, i < k.2.length → σ.1 105 (64 * w + i) = k.2.getD i 0) :
    WP (m_query F σ (Int32.ofNat s) (Int32.ofNat w)) (fun τ => Fr [120, 121, 122, 123] [] σ τ ∧ τ.1 120 0 = 0 ∧ τ.1 123 0 = ap ∧ An τ (aQuery M k)) := by
  obtain ⟨kd, f, v, k1, k2, k3, k4, k5, k6, k7, k8, k9, k10, k11, k12, k13⟩ := ask_nat hk
  have hkb := hk.2.2
  unfold m_query m_query_b0
  show WP ((rld (setI σ 122 0 0) 76 (Int32.ofNat s)).bind _) _
  refine WP_ld rfl 7 (by decide +kernel) hs ?_
  rw [show (setI σ 122 0 0).1 76 s = ap from h76]
  show WP ((rld (setI (setI (setI σ 122 0 0) 123 0 ap) 120 0 0) 103 (Int32.ofNat w)).bind _) _
  have hFr : Fr [120, 121, 122, 123] [] σ (setI (setI (setI σ 122 0 0) 123 0 ap) 120 0 0) := Fr_w (Fr_t (Fr_t Fr_I Fr_I) Fr_I) (by simp) (by simp)
  have n0 : An (setI (setI (setI σ 122 0 0) 123 0 ap) 120 0 0) [] := ⟨rfl, by simp, fun i hi => absurd hi (Nat.not_lt_zero _)⟩
  have v120 : (setI (setI (setI σ 122 0 0) 123 0 ap) 120 0 0).1 120 0 = 0 := rfl
  have v123 : (setI (setI (setI σ 122 0 0) 123 0 ap) 120 0 0).1 123 0 = ap := rfl
  generalize setI (setI (setI σ 122 0 0) 123 0 ap) 120 0 0 = σ0 at hFr n0 v120 v123
  have hm0 : RMc σ0 s M := RMc_fr hFr (by decide) h
  have fin : ∀ τ l, SLa σ0 τ → An τ l → l = aQuery M k → Fr [120, 121, 122, 123] [] σ τ ∧ τ.1 120 0 = 0 ∧ τ.1 123 0 = ap ∧ An τ (aQuery M k) := by
    intro τ l s1 s2 s3
    refine ⟨Fr_w (Fr_t hFr (SLa_Fr s1)) (by simp) (by simp), ?_, ?_, s3 ▸ s2⟩
    · rw [s1.1 120 (by decide) (by decide)]
      exact v120
    · rw [s1.1 123 (by decide) (by decide)]
      exact v123
  obtain ⟨sl, hlk⟩ := RMc_k hm0
  obtain ⟨wm, h113, hK⟩ := id hlk
  have hl128 := wm.2.1
  have o : ∀ g, g = 102 ∨ g = 103 ∨ g = 104 ∨ g = 105 → σ0.1 g = σ.1 g := fun g hg => hFr.1 g (by simp; omega)
  refine WP_ld rfl 224 (by decide +kernel) hw ?_
  rw [o 103 (by simp), h103, k3]
  have hkl := take_len (b := k.2) (k := f) (by omega)
  have bk : ∀ b ∈ k.2.take f, aLow8 b = b := fun b hb => hkb b (List.mem_of_mem_take hb)
  have hsrc : kSrc σ0 1 (64 * w) (k.2.take f) := by
    refine Or.inr ⟨rfl, by omega, fun i hi => ?_⟩
    rw [hkl] at hi
    rw [o 105 (by simp), h105 i (by omega), List.getD_eq_getElem?_getD, List.getD_eq_getElem?_getD, List.getElem?_take_of_lt hi]
  have hrk := m_rank_n hF hs hlk hsrc (by omega)
  rw [hkl] at hrk
  rw [show (64 : Int32) * Int32.ofNat w = Int32.ofNat (64 * w) from i_mc]
  refine WP_eq hrk ?_
  refine WP_ld rfl 224 (by decide +kernel) hw ?_
  rw [o 102 (by simp), h102, k1]
  have hkd : kd = 3 ∨ kd = 4 ∨ kd = 5 := by
    obtain ⟨a1, a2⟩ := hk3
    rw [k1, Int32.le_iff_toInt_le, Int32.toInt_ofNat_of_lt (by omega), show (3 : Int32).toInt = 3 by decide] at a1
    omega
  have hle := @aRank_le M (k.2.take f)
  have eQ : aQuery M k = (if Int32.ofNat kd = 3 then
      match aFind M (k.2.take f) with
      | some w => 1 :: w
      | none => [0]
    else if Int32.ofNat kd = 4 then
      [aLow8 (Int32.ofNat (aRank M (k.2.drop f) - aRank M (k.2.take f))), aLow8 (Int32.ofNat (aRank M (k.2.drop f) - aRank M (k.2.take f)) >>> 8)]
    else match M.2[aRank M (k.2.take f)]? with
      | none => [0]
      | some e => 1 :: Int32.ofNat e.1.length :: (e.1 ++ e.2)) := by
    unfold aQuery
    dsimp only
    rw [k1, k3, i_cl (by omega)]
    rfl
  have fc := find_cases hs hlk bk (by omega)
  refine WP_if (p := kd ≠ 3) (by rw [c2_ne, show (3 : Int32) = Int32.ofNat 3 from rfl, i_eqi (by omega) (by omega)]) (fun q3 => ?_) (fun q3 => ?_)
  · have n3 : ¬ Int32.ofNat kd = 3 := by
      rw [show (3 : Int32) = Int32.ofNat 3 from rfl, i_eqi (by omega) (by omega)]
      exact q3
    rw [if_neg n3] at eQ
    refine WP_ld rfl 224 (by decide +kernel) hw ?_
    rw [o 102 (by simp), h102, k1]
    refine WP_if (p := kd ≠ 4) (by rw [c2_ne, show (4 : Int32) = Int32.ofNat 4 from rfl, i_eqi (by omega) (by omega)]) (fun q4 => ?_) (fun q4 => ?_)
    · have n4 : ¬ Int32.ofNat kd = 4 := by
        rw [show (4 : Int32) = Int32.ofNat 4 from rfl, i_eqi (by omega) (by omega)]
        exact q4
      rw [if_neg n4] at eQ
      refine WP_ld rfl 7 (by decide +kernel) hs ?_
      rw [h113]
      refine WP_if (c2_ne.trans (not_congr (i_eqi (by omega) (by omega)))) (fun y => ?_) (fun y => ?_)
      · have hj : aRank M (k.2.take f) < M.2.length := by omega
        obtain ⟨e1, e2, e3, e4, e5⟩ := hK.2.2.2.2 _ hj
        have hsl := sl_lt hK hj
        obtain ⟨u1, u2, u3, u4⟩ := wf_get wm hj
        refine WP_ld (n := 128 * s + aRank M (k.2.take f)) i_ma 896 (by decide +kernel) (by omega) ?_
        rw [e1, show (128 : Int32) * Int32.ofNat s + Int32.ofNat (sl.getD (aRank M (k.2.take f)) 0) = Int32.ofNat (128 * s + sl.getD (aRank M (k.2.take f)) 0) from i_ma]
        refine WP_call (An_say n0 (by simp)) (fun p hp => ?_)
        refine WP_ld rfl 896 (by decide +kernel) (by omega) ?_
        rw [hp.1.1 114 (by decide) (by decide), e2]
        refine WP_call (An_say hp.2 (by simp)) (fun p2 hp2 => ?_)
        have s2 := SLa_t hp.1 hp2.1
        refine WP_mono (q223 (F := F) (σ := p2) (l := [] ++ [aLow8 1] ++ [aLow8 (Int32.ofNat (M.2.getD (aRank M (k.2.take f)) ([], [])).1.length)]) hF (by omega) u3 u1 u4 u2 (by simp) (by rw [s2.1 114 (by decide) (by decide)]; exact e2) (by rw [s2.1 116 (by decide) (by decide)]; exact e4) (by rw [s2.1 115 (by decide) (by decide)]; exact e3) (by rw [s2.1 117 (by decide) (by decide)]; exact e5) F 0 p2 (by omega) (Nat.zero_le _) SLa_refl (by rw [List.take_zero, List.append_nil]; exact hp2.2)) ?_
        rintro τ ⟨t1, t2⟩
        refine fin τ _ (SLa_t s2 t1) t2 ?_
        rw [eQ, List.getElem?_eq_getElem hj, say_32 (by omega), List.getD_eq_getElem?_getD, List.getElem?_eq_getElem hj]
        rfl
      · have hn : M.2[aRank M (k.2.take f)]? = none := List.getElem?_eq_none (by omega)
        rw [hn] at eQ
        refine WP_call (An_say n0 (by simp)) (fun p hp => ?_)
        unfold m_query_b264
        exact WP_some (fin p _ hp.1 hp.2 eQ.symm)
    · have q4 : kd = 4 := Classical.not_not.mp q4
      have y4 : Int32.ofNat kd = 4 := by rw [q4]; rfl
      rw [if_pos y4] at eQ
      have k12 := k12 q4
      refine WP_ld rfl 224 (by decide +kernel) hw ?_
      rw [o 104 (by simp), h104, i_subn (by omega), i_ad]
      have hdl : (k.2.drop f).length = k.2.length - f := List.length_drop
      have hsrc2 : kSrc σ0 1 (64 * w + f) (k.2.drop f) := by
        refine Or.inr ⟨rfl, by omega, fun i hi => ?_⟩
        rw [hdl] at hi
        rw [o 105 (by simp), Nat.add_assoc, h105 (f + i) (by omega), List.getD_eq_getElem?_getD, List.getD_eq_getElem?_getD, List.getElem?_drop]
      have hrk2 := m_rank_n hF hs hlk hsrc2 (by omega)
      rw [hdl] at hrk2
      refine WP_eq hrk2 ?_
      have hle2 := @aRank_le M (k.2.drop f)
      have g140 : ∀ n : Nat, n = aRank M (k.2.drop f) - aRank M (k.2.take f) → WP (m_query_b140 F σ0 (Int32.ofNat n)) (fun τ => Fr [120, 121, 122, 123] [] σ τ ∧ τ.1 120 0 = 0 ∧ τ.1 123 0 = ap ∧ An τ (aQuery M k)) := by
        intro n hn
        unfold m_query_b140 m_query_b264
        refine WP_call (An_say n0 (by simp)) (fun p hp => ?_)
        refine WP_call (An_say hp.2 (by simp)) (fun p2 hp2 => ?_)
        refine WP_some (fin p2 _ (SLa_t hp.1 hp2.1) hp2.2 ?_)
        rw [eQ, ← hn, low_and]
        rfl
      refine WP_if (i_lei (by omega) (by omega)) (fun y => ?_) (fun y => ?_)
      · exact g140 0 (by omega)
      · rw [i_subn (by omega)]
        exact g140 _ rfl
  · have q3 : kd = 3 := Classical.not_not.mp q3
    have y3 : Int32.ofNat kd = 3 := by rw [q3]; rfl
    rw [if_pos y3] at eQ
    have hfd := m_find_n hF hs hlk hsrc (by omega)
    rw [hkl] at hfd
    refine WP_eq hfd ?_
    unfold m_query_b76 m_query_b90 m_query_b264
    rcases fc with ⟨f1, f2⟩ | ⟨x, f1, f2, f3, f4, f5, f6, f7, f8, f9⟩
    · rw [f2]
      rw [f1] at eQ
      refine WP_if c0_ge (fun y => absurd (show (0 : Int32) ≤ -1 from y) (by decide)) (fun _ => ?_)
      refine WP_call (An_say n0 (by simp)) (fun p hp => ?_)
      refine WP_if c0_lt (fun _ => ?_) (fun y => absurd (show (-1 : Int32) < 0 by decide) y)
      exact WP_some (fin p _ hp.1 hp.2 eQ.symm)
    · rw [f3]
      rw [f1] at eQ
      refine WP_if c0_ge (fun _ => ?_) (fun y => absurd f5 y)
      refine WP_call (An_say n0 (by simp)) (fun p hp => ?_)
      refine WP_if c0_lt (fun y => absurd f5 (i_nle.mpr y)) (fun _ => ?_)
      refine WP_call (An_tell hF hp.2 f4 (by rw [hp.1.1 115 (by decide) (by decide)]; exact f6) (by rw [hp.1.1 117 (by decide) (by decide)]; exact f7) f8 f9 (by simp; omega)) (fun p4 hp4 => ?_)
      exact WP_some (fin p4 _ (SLa_t hp.1 hp4.1) hp4.2 eQ.symm)
