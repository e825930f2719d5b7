/-! a machine is saved -/
theorem RC_14 {c c' : CS} {a : AA} {v : CV} {s : Nat} (h : RC c a v) (P : PX 10 s [14] c c') : RC c' a v := by
  have hF : Ck [334] s c c' := PX_k P (Or.inr rfl) (by decide)
  have hT := P.2.1
  exact ⟨KSc_fr hF (by decide) h.1, fun s hs hu => KFr_fr hF (by decide) (h.2.1 s hs hu), fun s hs => KHd_fr hF (by decide) (h.2.2.1 s hs), fun s hs hr => KLd_fr hF (by decide) (h.2.2.2.1 s hs hr), fun s hs hu => KRq_fr hF (by decide) (h.2.2.2.2.1 s hs hu), KBl_fr hF (by decide) h.2.2.2.2.2.1, KDa_fr hF (by decide) h.2.2.2.2.2.2.1, fun s hs => KLw_fr hF (by decide) (h.2.2.2.2.2.2.2.1 s hs), fun s hs => KG_fr hF (by decide) (h.2.2.2.2.2.2.2.2.1 s hs), fun s hs => KPg_fr hF (by decide) (h.2.2.2.2.2.2.2.2.2.1 s hs), fun s hs => KCh_fr hF (by decide) (h.2.2.2.2.2.2.2.2.2.2.1 s hs), fun s hs => KMc_fr hF (by decide) (h.2.2.2.2.2.2.2.2.2.2.2.1 s hs), fun s hs => KPc_fr hF (by decide) (h.2.2.2.2.2.2.2.2.2.2.2.2.1 s hs), fun k hk => KCl_fr hF (by decide) (h.2.2.2.2.2.2.2.2.2.2.2.2.2.1 k hk), fun k hk => KDn_fr hF (by decide) (h.2.2.2.2.2.2.2.2.2.2.2.2.2.2.1 k hk), KAk_fr hF (by decide) h.2.2.2.2.2.2.2.2.2.2.2.2.2.2.2.1, KFc_fr hF (by decide) h.2.2.2.2.2.2.2.2.2.2.2.2.2.2.2.2.1, fun s hs => KId_fr hF (by decide) (h.2.2.2.2.2.2.2.2.2.2.2.2.2.2.2.2.2.1 s hs), fun k hk => KIc_fr hF (by decide) (h.2.2.2.2.2.2.2.2.2.2.2.2.2.2.2.2.2.2.1 k hk), KLt_fr hF hT (by decide) h.2.2.2.2.2.2.2.2.2.2.2.2.2.2.2.2.2.2.2.1, KRm_eq P.2.2.1 P.2.2.2 P.2.1 h.2.2.2.2.2.2.2.2.2.2.2.2.2.2.2.2.2.2.2.2.1, h.2.2.2.2.2.2.2.2.2.2.2.2.2.2.2.2.2.2.2.2.2.1, h.2.2.2.2.2.2.2.2.2.2.2.2.2.2.2.2.2.2.2.2.2.2⟩
theorem RC_14g {c : CS} {a : AA} {v : CV} {s n : Nat} {w : Nat → Int32} (h : RC c a v) (hs : s < 7) (h1 : 2 * n ≥ 3 * cL c 10 s 14) (h2 : cL c 10 s 14 + 4 ≤ n) (h3 : n ≤ 21000) : RC (csG c 10 s 14 n w) a v := by
  have ho : ∀ cl i f, ¬ (cl = 10 ∧ i = s ∧ f = 14) → Sm c (csG c 10 s 14 n w) cl i f := fun cl i f z => csG_o z
  have hF : Ck [334] s c (csG c 10 s 14 n w) := Ck_m (cl := 10) (f := 14) (Or.inr rfl) ho
  have eT : cT (csG c 10 s 14 n w) = ((cT c).1 + 1, (cT c).2 + n) := rfl
  have g1 : gw1 1 = 4 := rfl
  have g2 : gw2 1 = 3 := rfl
  have hr : KRm (csG c 10 s 14 n w) v := KRm_gr (cl := 10) (i := s) (f := 14) (k := 1) (m := 21000) (L := cL c 10 s 14) (n := n) (Or.inl ⟨rfl, hs, rfl, rfl, rfl⟩) rfl csG_L ho eT (by rw [g1]; omega) (by rw [g2]; omega) h3 h.2.2.2.2.2.2.2.2.2.2.2.2.2.2.2.2.2.2.2.2.1
  have hlt : KLt (csG c 10 s 14 n w) a v.1.1 := KLt_s (c := c) rfl rfl (fun t _ => rfl) (by rw [eT]; exact Nat.le_succ _) (fun ad f _ _ _ => ho 8 ad f (fun z => absurd z.1 (by decide))) h.2.2.2.2.2.2.2.2.2.2.2.2.2.2.2.2.2.2.2.1
  exact ⟨KSc_fr hF (by decide) h.1, fun s hs hu => KFr_fr hF (by decide) (h.2.1 s hs hu), fun s hs => KHd_fr hF (by decide) (h.2.2.1 s hs), fun s hs hr => KLd_fr hF (by decide) (h.2.2.2.1 s hs hr), fun s hs hu => KRq_fr hF (by decide) (h.2.2.2.2.1 s hs hu), KBl_fr hF (by decide) h.2.2.2.2.2.1, KDa_fr hF (by decide) h.2.2.2.2.2.2.1, fun s hs => KLw_fr hF (by decide) (h.2.2.2.2.2.2.2.1 s hs), fun s hs => KG_fr hF (by decide) (h.2.2.2.2.2.2.2.2.1 s hs), fun s hs => KPg_fr hF (by decide) (h.2.2.2.2.2.2.2.2.2.1 s hs), fun s hs => KCh_fr hF (by decide) (h.2.2.2.2.2.2.2.2.2.2.1 s hs), fun s hs => KMc_fr hF (by decide) (h.2.2.2.2.2.2.2.2.2.2.2.1 s hs), fun s hs => KPc_fr hF (by decide) (h.2.2.2.2.2.2.2.2.2.2.2.2.1 s hs), fun k hk => KCl_fr hF (by decide) (h.2.2.2.2.2.2.2.2.2.2.2.2.2.1 k hk), fun k hk => KDn_fr hF (by decide) (h.2.2.2.2.2.2.2.2.2.2.2.2.2.2.1 k hk), KAk_fr hF (by decide) h.2.2.2.2.2.2.2.2.2.2.2.2.2.2.2.1, KFc_fr hF (by decide) h.2.2.2.2.2.2.2.2.2.2.2.2.2.2.2.2.1, fun s hs => KId_fr hF (by decide) (h.2.2.2.2.2.2.2.2.2.2.2.2.2.2.2.2.2.1 s hs), fun k hk => KIc_fr hF (by decide) (h.2.2.2.2.2.2.2.2.2.2.2.2.2.2.2.2.2.2.1 k hk), hlt, hr, h.2.2.2.2.2.2.2.2.2.2.2.2.2.2.2.2.2.2.2.2.2.1, h.2.2.2.2.2.2.2.2.2.2.2.2.2.2.2.2.2.2.2.2.2.2⟩
theorem K_size {F : Nat} {c : CS} {s : Nat} {M : AM} (hF : 200 ≤ F) (h : KM0 c s M) (w : wfM M) : k_Machine_savedSize F c s = some (Int32.ofNat (aEnc M).length) := by
  have h16 := w.1.1
  have h128 := w.2.1
  have hle := (aEnc_len w).1
  have e4 : ∀ v : Int32, (a4 v).length = 4 := fun _ => rfl
  have eE : (aEnc M).length = 8 + (M.1.flatMap sEnc).length + (M.2.flatMap kEnc).length := by
    rw [aEnc_e, List.length_append, List.length_append, List.length_append, e4, e4]
    omega
  obtain ⟨h1, h4, h5, hS, _⟩ := KM0_f h
  have key2 : ∀ n i, M.2.length + 1 ≤ i + n → i ≤ M.2.length → k_Machine_savedSize_b37 F n c s (Int32.ofNat (8 + (M.1.flatMap sEnc).length + ((M.2.take i).flatMap kEnc).length)) (Int32.ofNat i) = some (Int32.ofNat (aEnc M).length) := by
    intro n
    induction n with
    | zero => intro i g1 g2; omega
    | succ n ih =>
      intro i g1 g2
      unfold k_Machine_savedSize_b37
      dsimp only
      rw [h4]
      by_cases q : i = M.2.length
      · rw [if_pos ((i_gei (by omega) (by omega)).mpr (by omega)), q, List.take_length, eE]
      · rw [if_neg (fun y => by have := (i_gei (by omega) (by omega)).mp y; omega)]
        obtain ⟨sl, q1, q2, q3, q4, _, _, q7, q8⟩ := K_slot h w (show i < M.2.length by omega)
        rw [crd_n rfl (show i < 128 by omega) (by omega), Option.bind_some, q2, crd_n rfl (show sl < 128 from q1) (by omega), Option.bind_some, q3, Option.bind_some, crd_n rfl (show sl < 128 from q1) (by omega), Option.bind_some, q4, show (3 : Int32) = Int32.ofNat 3 from rfl, i_ad, i_ad, i_ad, i_s]
        have := ih (i + 1) (by omega) (by omega)
        rw [flat_take (d := ([], [])) (show i < M.2.length by omega), List.length_append, kEnc_l] at this
        rw [← this]
        congr 2
        omega
  have key1 : ∀ n i, M.1.length + 1 ≤ i + n → i ≤ M.1.length → k_Machine_savedSize_b5 F n c s (Int32.ofNat (8 + ((M.1.take i).flatMap sEnc).length)) (Int32.ofNat i) = some (Int32.ofNat (aEnc M).length) := by
    intro n
    induction n with
    | zero => intro i g1 g2; omega
    | succ n ih =>
      intro i g1 g2
      unfold k_Machine_savedSize_b5
      dsimp only
      rw [h1]
      by_cases q : i = M.1.length
      · rw [if_pos ((i_gei (by omega) (by omega)).mpr (by omega)), q, List.take_length]
        exact key2 F 0 (by omega) (Nat.zero_le _)
      · rw [if_neg (fun y => by have := (i_gei (by omega) (by omega)).mp y; omega), show (4 : Int32) = Int32.ofNat 4 from rfl, i_5, crd_n rfl (show 5 * i + 4 < 80 by omega) (by omega), Option.bind_some, (KSs_r hS (show i < M.1.length by omega)).2.2.2.2.1, show (18 : Int32) = Int32.ofNat 18 from rfl, i_ad, i_ad, i_s]
        have := ih (i + 1) (by omega) (by omega)
        rw [flat_take (d := aN0) (show i < M.1.length by omega), List.length_append, sEnc_l] at this
        rw [← this]
        congr 2
        omega
  unfold k_Machine_savedSize k_Machine_savedSize_b0
  exact key1 F 0 (by omega) (Nat.zero_le _)
/-- what follows the sessions -/
theorem K_sv160 {F s : Nat} {c c1 : CS} {M : AM} {x : Int32} (hF : 200 ≤ F) (h : KM0 c s M) (w : wfM M) (hL : (aEnc M).length ≤ cL c 10 s 14) (hL2 : cL c 10 s 14 ≤ 21000) (hk : Wk s c c1 (a4 (Int32.ofNat M.1.length) ++ M.1.flatMap sEnc ++ a4 (Int32.ofNat M.2.length))) : WP (k_Machine_save_b160 F F c1 s x (Int32.ofNat (a4 (Int32.ofNat M.1.length) ++ M.1.flatMap sEnc ++ a4 (Int32.ofNat M.2.length)).length) 0) (fun p => p.1 = x ∧ Wk s c p.2 (aEnc M)) := by
  have h128 := w.2.1
  obtain ⟨h1, h4, h5, hS, _⟩ := KM0_f h
  have eE : (aEnc M).length = (a4 (Int32.ofNat M.1.length) ++ M.1.flatMap sEnc ++ a4 (Int32.ofNat M.2.length)).length + (M.2.flatMap kEnc).length := by
    rw [aEnc_e, List.length_append]
  have eA : aEnc M = (a4 (Int32.ofNat M.1.length) ++ M.1.flatMap sEnc ++ a4 (Int32.ofNat M.2.length)) ++ M.2.flatMap kEnc := aEnc_e
  generalize a4 (Int32.ofNat M.1.length) ++ M.1.flatMap sEnc ++ a4 (Int32.ofNat M.2.length) = B at hk eE eA
  have key : ∀ n i c1, M.2.length + 1 ≤ i + n → i ≤ M.2.length → Wk s c c1 (B ++ (M.2.take i).flatMap kEnc) → WP (k_Machine_save_b160 F n c1 s x (Int32.ofNat (B ++ (M.2.take i).flatMap kEnc).length) (Int32.ofNat i)) (fun p => p.1 = x ∧ Wk s c p.2 (aEnc M)) := by
    intro n
    induction n with
    | zero => intro i c1 g1 g2; omega
    | succ n ih =>
      intro i c1 g1 g2 g3
      unfold k_Machine_save_b160
      dsimp only
      have P := g3.1
      rw [PX_o P (by decide), h4]
      by_cases q : i = M.2.length
      · rw [if_pos ((i_gei (by omega) (by omega)).mpr (by omega))]
        rw [q, List.take_length, ← eA] at g3
        exact WP_some ⟨rfl, g3⟩
      · rw [if_neg (fun y => by have := (i_gei (by omega) (by omega)).mp y; omega)]
        obtain ⟨sl, q1, q2, q3, q4, q5, q6, q7, q8⟩ := K_slot h w (show i < M.2.length by omega)
        have ft := flat_take (f := kEnc) (d := ([], [])) (show i < M.2.length by omega)
        have fl : ((M.2.take (i + 1)).flatMap kEnc).length ≤ (M.2.flatMap kEnc).length := flat_le
        have ih1 := ih (i + 1)
        rw [ft] at fl ih1
        rw [List.length_append, kEnc_l] at fl
        rw [← List.append_assoc] at ih1
        have ek : kEnc (M.2.getD i ([], [])) = [aLow8 (Int32.ofNat (M.2.getD i ([], [])).1.length)] ++ [aLow8 (Int32.ofNat (M.2.getD i ([], [])).2.length >>> 8)] ++ [aLow8 (Int32.ofNat (M.2.getD i ([], [])).2.length)] ++ (M.2.getD i ([], [])).1 ++ (M.2.getD i ([], [])).2 := rfl
        rw [ek] at ih1
        generalize M.2.getD i ([], []) = e at q3 q4 q5 q6 q7 q8 ih1 fl
        have lB : (B ++ (M.2.take i).flatMap kEnc).length = B.length + ((M.2.take i).flatMap kEnc).length := List.length_append
        generalize B ++ (M.2.take i).flatMap kEnc = B1 at g3 ih1 lB
        have r6 : ∀ {c2 : CS}, PX 10 s [14] c c2 → crd c2 10 s 6 (Int32.ofNat i) = some (Int32.ofNat sl) := fun {c2} P2 => by
          rw [crd_n rfl (show i < 128 by omega) (by omega), PX_o P2 (by decide), q2]
        have r7 : ∀ {c2 : CS}, PX 10 s [14] c c2 → crd c2 10 s 7 (Int32.ofNat sl) = some (Int32.ofNat e.1.length) := fun {c2} P2 => by
          rw [crd_n rfl (show sl < 128 from q1) (by omega), PX_o P2 (by decide), q3]
        have r8 : ∀ {c2 : CS}, PX 10 s [14] c c2 → crd c2 10 s 8 (Int32.ofNat sl) = some (Int32.ofNat e.2.length) := fun {c2} P2 => by
          rw [crd_n rfl (show sl < 128 from q1) (by omega), PX_o P2 (by decide), q4]
        refine WP_eq (r6 P) (WP_eq (r7 P) ?_)
        have e8 : ∀ y : Int32, (y.toInt8.toInt32).toInt8.toInt32 = aLow8 y := fun y => aLow8_i
        rw [e8]
        obtain ⟨d1, w1⟩ := Wk_b (x := aLow8 (Int32.ofNat e.1.length)) g3 (by omega) hL2 rfl
        refine WP_eq d1 (WP_eq (r8 w1.1) ?_)
        rw [show (8 : Int32) &&& 31 = 8 by decide, e8]
        obtain ⟨d2, w2⟩ := Wk_b (x := aLow8 (Int32.ofNat e.2.length >>> 8)) (p := Int32.ofNat B1.length + 1) w1 (by rw [List.length_append, List.length_singleton]; omega) hL2 (by rw [List.length_append, List.length_singleton]; exact i_ad (s := 1))
        refine WP_eq d2 (WP_eq (r8 w2.1) ?_)
        rw [e8]
        obtain ⟨d3, w3⟩ := Wk_b (x := aLow8 (Int32.ofNat e.2.length)) (p := Int32.ofNat B1.length + 2) w2 (by rw [List.length_append, List.length_append, List.length_singleton, List.length_singleton]; omega) hL2 (by rw [List.length_append, List.length_append, List.length_singleton, List.length_singleton]; exact i_ad (s := 2))
        refine WP_eq d3 (WP_eq (r7 w3.1) ?_)
        have l3 : (((B1 ++ [aLow8 (Int32.ofNat e.1.length)]) ++ [aLow8 (Int32.ofNat e.2.length >>> 8)]) ++ [aLow8 (Int32.ofNat e.2.length)]).length = B1.length + 3 := by
          rw [List.length_append, List.length_append, List.length_append, List.length_singleton, List.length_singleton, List.length_singleton]
        refine WP_call (Wk_c (q := 132 * sl) (w := e.1) w3 (by rw [l3]; omega) hL2 (by decide) (show 132 * sl + e.1.length ≤ 16896 by omega) (by omega) q5 i_132 (by rw [l3]; exact i_ad (s := 3)) rfl) (fun c4 w4 => ?_)
        refine WP_eq (r7 w4.1) (WP_eq (r8 w4.1) ?_)
        have l4 : ((((B1 ++ [aLow8 (Int32.ofNat e.1.length)]) ++ [aLow8 (Int32.ofNat e.2.length >>> 8)]) ++ [aLow8 (Int32.ofNat e.2.length)]) ++ e.1).length = B1.length + (3 + e.1.length) := by
          rw [List.length_append, l3]
          omega
        have en : Int32.ofNat B1.length + ((3 : Int32) + Int32.ofNat e.1.length) = Int32.ofNat (B1.length + (3 + e.1.length)) := by
          rw [show (3 : Int32) = Int32.ofNat 3 from rfl, i_ad, i_ad]
        rw [en, i_132, show Int32.ofNat (132 * sl) + 32 = Int32.ofNat (132 * sl + 32) from i_ad (s := 32)]
        refine WP_call (Wk_c (q := 132 * sl + 32) (w := e.2) w4 (by rw [l4]; omega) hL2 (by decide) (show 132 * sl + 32 + e.2.length ≤ 16896 by omega) (by omega) q6 rfl (by rw [l4]) rfl) (fun c5 w5 => ?_)
        refine WP_eq (r8 w5.1) ?_
        rw [i_ad, i_s]
        have ea : ((((B1 ++ [aLow8 (Int32.ofNat e.1.length)]) ++ [aLow8 (Int32.ofNat e.2.length >>> 8)]) ++ [aLow8 (Int32.ofNat e.2.length)]) ++ e.1) ++ e.2 = B1 ++ ([aLow8 (Int32.ofNat e.1.length)] ++ [aLow8 (Int32.ofNat e.2.length >>> 8)] ++ [aLow8 (Int32.ofNat e.2.length)] ++ e.1 ++ e.2) := by
          simp only [List.append_assoc]
        have le : B1.length + (3 + e.1.length) + e.2.length = (B1 ++ ([aLow8 (Int32.ofNat e.1.length)] ++ [aLow8 (Int32.ofNat e.2.length >>> 8)] ++ [aLow8 (Int32.ofNat e.2.length)] ++ e.1 ++ e.2)).length := by
          rw [← ea, List.length_append, l4]
        rw [le]
        exact ih1 c5 (by omega) (by omega) (Wk_len w5 ea)
  have := key F 0 c1 (by omega) (Nat.zero_le _) (by rw [List.take_zero, List.flatMap_nil, List.append_nil]; exact hk)
  rw [List.take_zero, List.flatMap_nil, List.append_nil] at this
  exact this
theorem K_save {F : Nat} {c : CS} {a : AA} {v : CV} {s : Nat} (hF : 200 ≤ F) (h : RC c a v) (hs : s < 7) : WP (k_Machine_save F c s) (fun p => p.1 = Int32.ofNat (aEnc (aMc a s)).length ∧ RC p.2 a v ∧ (aEnc (aMc a s)).length ≤ cal p.2 10 s 14 ∧ ∀ i, i < (aEnc (aMc a s)).length → cI p.2 10 s 14 i = (aEnc (cM (aMc a s))).getD i 0) := by
  obtain ⟨w0, hM⟩ := h.2.2.2.2.2.2.2.2.2.2.2.1 s hs
  have w := wfM_cM w0.1
  have hsz := K_size hF hM w
  have hle := aEnc_len w
  have hsh := shN_wf w0
  rw [← cM_enc]
  -- with room enough
  have main : ∀ c1, RC c1 a v → (aEnc (cM (aMc a s))).length ≤ cL c1 10 s 14 → WP (k_Machine_save_b25 F c1 s (Int32.ofNat (aEnc (cM (aMc a s))).length)) (fun p => p.1 = Int32.ofNat (aEnc (cM (aMc a s))).length ∧ RC p.2 a v ∧ (aEnc (cM (aMc a s))).length ≤ cal p.2 10 s 14 ∧ ∀ i, i < (aEnc (cM (aMc a s))).length → cI p.2 10 s 14 i = (aEnc (cM (aMc a s))).getD i 0) := by
    intro c1 h1 hr
    obtain ⟨_, hM1⟩ := h1.2.2.2.2.2.2.2.2.2.2.2.1 s hs
    have hL2 : cL c1 10 s 14 ≤ 21000 := (h1.2.2.2.2.2.2.2.2.2.2.2.2.2.2.2.2.2.2.2.2.1.2.2.2.2.1 s hs).1
    generalize cM (aMc a s) = M at hM1 hr w hle hsh
    obtain ⟨x1, x4, x5, xS, _⟩ := KM0_f hM1
    have h16 := hsh.1
    have e4 : ∀ v : Int32, (a4 v).length = 4 := fun _ => rfl
    have eE : (aEnc M).length = 4 + (M.1.flatMap sEnc).length + 4 + (M.2.flatMap kEnc).length := by
      rw [aEnc_e, List.length_append, List.length_append, List.length_append, e4, e4]
    unfold k_Machine_save_b25
    rw [x1]
    have w0 : Wk s c1 c1 [] := ⟨PX_r, Nat.zero_le _, fun i hi => absurd hi (Nat.not_lt_zero _)⟩
    refine WP_call (K_svN (l := []) (v := Int32.ofNat M.1.length) (by omega) w0 (by show 0 + 4 ≤ _; omega) hL2) (fun p hp => ?_)
    obtain ⟨p1, p2⟩ := hp
    rw [List.nil_append] at p1 p2
    rw [p1]
    have key : ∀ n i c2, M.1.length + 1 ≤ i + n → i ≤ M.1.length → Wk s c1 c2 (a4 (Int32.ofNat M.1.length) ++ (M.1.take i).flatMap sEnc) → WP (k_Machine_save_b37 F n c2 s (Int32.ofNat (aEnc M).length) (Int32.ofNat (a4 (Int32.ofNat M.1.length) ++ (M.1.take i).flatMap sEnc).length) (Int32.ofNat i)) (fun p => p.1 = Int32.ofNat (aEnc M).length ∧ Wk s c1 p.2 (aEnc M)) := by
      intro n
      induction n with
      | zero => intro i c2 g1 g2; omega
      | succ n ih =>
        intro i c2 g1 g2 g3
        unfold k_Machine_save_b37
        dsimp only
        have P := g3.1
        rw [PX_o P (by decide), x1]
        by_cases q : i = M.1.length
        · rw [if_pos ((i_gei (by omega) (by omega)).mpr (by omega)), PX_o P (by decide), x4]
          rw [q, List.take_length] at g3 ⊢
          refine WP_call (K_svN (v := Int32.ofNat M.2.length) (by omega) g3 (by rw [List.length_append, e4]; omega) hL2) (fun p hp => ?_)
          rw [hp.1]
          exact K_sv160 hF hM1 w hr hL2 hp.2
        · rw [if_neg (fun y => by have := (i_gei (by omega) (by omega)).mp y; omega)]
          have hi : i < M.1.length := by omega
          obtain ⟨y0, y1, y2, y3, y4, y5⟩ := KSs_r xS hi
          have yl := shN_get hsh hi
          have ft := flat_take (f := sEnc) (d := aN0) hi
          have fl : ((M.1.take (i + 1)).flatMap sEnc).length ≤ (M.1.flatMap sEnc).length := flat_le
          have ih1 := ih (i + 1)
          rw [ft] at fl ih1
          rw [List.length_append, sEnc_l] at fl
          rw [← List.append_assoc] at ih1
          have ek : sEnc (M.1.getD i aN0) = a4 (M.1.getD i aN0).1 ++ a4 (M.1.getD i aN0).2.1 ++ a4 (M.1.getD i aN0).2.2.1 ++ a4 (M.1.getD i aN0).2.2.2.1 ++ [aLow8 (Int32.ofNat (M.1.getD i aN0).2.2.2.2.length >>> 8)] ++ [aLow8 (Int32.ofNat (M.1.getD i aN0).2.2.2.2.length)] ++ (M.1.getD i aN0).2.2.2.2 := by
            unfold sEnc
            simp only [List.append_assoc]
            rfl
          rw [ek] at ih1
          generalize M.1.getD i aN0 = x at y0 y1 y2 y3 y4 y5 yl ih1 fl
          have lB : (a4 (Int32.ofNat M.1.length) ++ (M.1.take i).flatMap sEnc).length = 4 + ((M.1.take i).flatMap sEnc).length := by rw [List.length_append, e4]
          generalize a4 (Int32.ofNat M.1.length) ++ (M.1.take i).flatMap sEnc = B1 at g3 ih1 lB
          have rr : ∀ {c3 : CS} (m : Nat), m < 5 → PX 10 s [14] c1 c3 → crd c3 10 s 2 (Int32.ofNat (5 * i) + Int32.ofNat m) = some (cI c1 10 s 2 (5 * i + m)) := fun {c3} m hm P2 => by
            rw [i_ad, crd_n rfl (show 5 * i + m < 80 by omega) (by omega), PX_o P2 (by decide)]
          obtain ⟨k, hk⟩ : ∃ k, F = k + 5 := ⟨F - 5, by omega⟩
          rw [i_50]
          have step0 : ∀ G, k_Machine_save_b53 F G F c2 s = k_Machine_save_b53 F G (k + 5) c2 s := fun G => by rw [← hk]
          rw [step0]
          unfold k_Machine_save_b53
          dsimp only
          rw [if_neg (show ¬ xc2 .ge (0 : Int32) 4 = true by decide)]
          refine WP_eq (rr 0 (by omega) P) ?_
          rw [show cI c1 10 s 2 (5 * i + 0) = x.1 from y0]
          refine WP_call (K_svN (by omega) g3 (by omega) hL2) (fun p1 w1 => ?_)
          obtain ⟨w1a, w1⟩ := w1
          rw [w1a, show (0 : Int32) + 1 = 1 by decide]
          have l1 : (B1 ++ a4 x.1).length = B1.length + 4 := by rw [List.length_append, e4]
          unfold k_Machine_save_b53
          dsimp only
          rw [if_neg (show ¬ xc2 .ge (1 : Int32) 4 = true by decide)]
          refine WP_eq (rr 1 (by omega) w1.1) ?_
          rw [y1]
          refine WP_call (K_svN (by omega) w1 (by omega) hL2) (fun p2 w2 => ?_)
          obtain ⟨w2a, w2⟩ := w2
          rw [w2a, show (1 : Int32) + 1 = 2 by decide]
          have l2 : (B1 ++ a4 x.1 ++ a4 x.2.1).length = B1.length + 8 := by rw [List.length_append, e4, l1]
          unfold k_Machine_save_b53
          dsimp only
          rw [if_neg (show ¬ xc2 .ge (2 : Int32) 4 = true by decide)]
          refine WP_eq (rr 2 (by omega) w2.1) ?_
          rw [y2]
          refine WP_call (K_svN (by omega) w2 (by omega) hL2) (fun p3 w3 => ?_)
          obtain ⟨w3a, w3⟩ := w3
          rw [w3a, show (2 : Int32) + 1 = 3 by decide]
          have l3 : (B1 ++ a4 x.1 ++ a4 x.2.1 ++ a4 x.2.2.1).length = B1.length + 12 := by rw [List.length_append, e4, l2]
          unfold k_Machine_save_b53
          dsimp only
          rw [if_neg (show ¬ xc2 .ge (3 : Int32) 4 = true by decide)]
          refine WP_eq (rr 3 (by omega) w3.1) ?_
          rw [y3]
          refine WP_call (K_svN (by omega) w3 (by omega) hL2) (fun p4 w4 => ?_)
          obtain ⟨w4a, w4⟩ := w4
          rw [w4a, show (3 : Int32) + 1 = 4 by decide]
          have l4 : (B1 ++ a4 x.1 ++ a4 x.2.1 ++ a4 x.2.2.1 ++ a4 x.2.2.2.1).length = B1.length + 16 := by rw [List.length_append, e4, l3]
          unfold k_Machine_save_b53
          dsimp only
          rw [if_pos (show xc2 .ge (4 : Int32) 4 = true by decide)]
          refine WP_eq (rr 4 (by omega) w4.1) ?_
          rw [y4]
          have e8 : ∀ y : Int32, (y.toInt8.toInt32).toInt8.toInt32 = aLow8 y := fun y => aLow8_i
          rw [show (8 : Int32) &&& 31 = 8 by decide, e8, e8]
          obtain ⟨d5, w5⟩ := Wk_b (x := aLow8 (Int32.ofNat x.2.2.2.2.length >>> 8)) w4 (by omega) hL2 rfl
          refine WP_eq d5 ?_
          have l5 : (B1 ++ a4 x.1 ++ a4 x.2.1 ++ a4 x.2.2.1 ++ a4 x.2.2.2.1 ++ [aLow8 (Int32.ofNat x.2.2.2.2.length >>> 8)]).length = B1.length + 17 := by
            rw [List.length_append, List.length_singleton, l4]
          obtain ⟨d6, w6⟩ := Wk_b (x := aLow8 (Int32.ofNat x.2.2.2.2.length)) (p := Int32.ofNat (B1 ++ a4 x.1 ++ a4 x.2.1 ++ a4 x.2.2.1 ++ a4 x.2.2.2.1).length + 1) w5 (by rw [l5]; omega) hL2 (by rw [l4, l5]; exact i_ad (s := 1))
          refine WP_eq d6 ?_
          have l6 : (B1 ++ a4 x.1 ++ a4 x.2.1 ++ a4 x.2.2.1 ++ a4 x.2.2.2.1 ++ [aLow8 (Int32.ofNat x.2.2.2.2.length >>> 8)] ++ [aLow8 (Int32.ofNat x.2.2.2.2.length)]).length = B1.length + 18 := by
            rw [List.length_append, List.length_singleton, l5]
          have en : Int32.ofNat (B1 ++ a4 x.1 ++ a4 x.2.1 ++ a4 x.2.2.1 ++ a4 x.2.2.2.1).length + 2 = Int32.ofNat (B1.length + 18) := by
            rw [l4]
            exact i_ad (s := 2)
          have en2 : Int32.ofNat (B1 ++ a4 x.1 ++ a4 x.2.1 ++ a4 x.2.2.1 ++ a4 x.2.2.2.1).length + ((2 : Int32) + Int32.ofNat x.2.2.2.2.length) = Int32.ofNat (B1.length + 18 + x.2.2.2.2.length) := by
            rw [l4, show (2 : Int32) = Int32.ofNat 2 from rfl, i_ad, i_ad]
            congr 1
            omega
          rw [en, en2, i_s]
          refine WP_call (Wk_c (q := 101 * i) (w := x.2.2.2.2) w6 (by rw [l6]; omega) hL2 (by decide) (show 101 * i + x.2.2.2.2.length ≤ 1616 by omega) (by omega) y5 i_101 (by rw [l6]) rfl) (fun c7 w7 => ?_)
          have ea : B1 ++ a4 x.1 ++ a4 x.2.1 ++ a4 x.2.2.1 ++ a4 x.2.2.2.1 ++ [aLow8 (Int32.ofNat x.2.2.2.2.length >>> 8)] ++ [aLow8 (Int32.ofNat x.2.2.2.2.length)] ++ x.2.2.2.2 = B1 ++ (a4 x.1 ++ a4 x.2.1 ++ a4 x.2.2.1 ++ a4 x.2.2.2.1 ++ [aLow8 (Int32.ofNat x.2.2.2.2.length >>> 8)] ++ [aLow8 (Int32.ofNat x.2.2.2.2.length)] ++ x.2.2.2.2) := by
            simp only [List.append_assoc]
          have le : B1.length + 18 + x.2.2.2.2.length = (B1 ++ (a4 x.1 ++ a4 x.2.1 ++ a4 x.2.2.1 ++ a4 x.2.2.2.1 ++ [aLow8 (Int32.ofNat x.2.2.2.2.length >>> 8)] ++ [aLow8 (Int32.ofNat x.2.2.2.2.length)] ++ x.2.2.2.2)).length := by
            rw [← ea, List.length_append, l6]
          rw [le]
          exact ih1 c7 (by omega) (by omega) (Wk_len w7 ea)
    have hgo := key F 0 p.2 (by omega) (Nat.zero_le _) (by rw [List.take_zero, List.flatMap_nil, List.append_nil]; exact p2)
    rw [List.take_zero, List.flatMap_nil, List.append_nil] at hgo
    refine WP_mono hgo (fun r hr2 => ⟨hr2.1, RC_14 h1 hr2.2.1, ?_, hr2.2.2.2⟩)
    show _ ≤ cL r.2 10 s 14
    rw [PX_cL hr2.2.1]
    exact hr
  unfold k_Machine_save k_Machine_save_b0
  refine WP_eq hsz ?_
  have hL2 : cL c 10 s 14 ≤ 21000 := (h.2.2.2.2.2.2.2.2.2.2.2.2.2.2.2.2.2.2.2.2.1.2.2.2.2.1 s hs).1
  have ec : cal c 10 s 14 = cL c 10 s 14 := rfl
  rw [ec]
  refine WP_if (i_gei (by omega) (by omega)) (fun z => main c h z) (fun z => ?_)
  rw [if_neg (by decide), show (2 : Int32) = Int32.ofNat 2 from rfl, i_div (by omega) (by omega) (by omega), i_ad, cgrow_n (by omega)]
  refine WP_b (main _ (RC_14g h hs (by omega) (by omega) (by omega)) ?_)
  rw [csG_L]
  omega
