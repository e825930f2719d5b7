/-! the face: an answer is shown -/
theorem RC_re {c c' : CS} {a : AA} {v : CV} {r : List Int32} (h : RC c a v) (P : PX 15 0 [6, 7] c c') (e7 : cI c' 15 0 7 0 = Int32.ofNat r.length) (hl : r.length ≤ 134) (e6 : ∀ i, i < r.length → cI c' 15 0 6 i = r.getD i 0) : RC c' (aReS a r) v := by
  have hF : Ck [486, 487] 0 c c' := PX_k P (Or.inl rfl) (by decide)
  have hT := P.2.1
  obtain ⟨f1, f2, f3, _, _, _⟩ := h.2.2.2.2.2.2.2.2.2.2.2.2.2.2.2.2.1
  have hfc : KFc c' (aTp (aReS a r)) (aRe (aReS a r)) := ⟨(PX_o P (by decide)).trans f1, f2, fun i hi => (PX_o P (by decide)).trans (f3 i hi), e7, hl, e6⟩
  exact ⟨KSc_fr hF (by decide) h.1, fun s hs hu => KFr_fr hF (by decide) (h.2.1 s hs hu), fun s hs => KHd_fr hF (by decide) (h.2.2.1 s hs), fun s hs hr => KLd_fr hF (by decide) (h.2.2.2.1 s hs hr), fun s hs hu => KRq_fr hF (by decide) (h.2.2.2.2.1 s hs hu), KBl_fr hF (by decide) h.2.2.2.2.2.1, KDa_fr hF (by decide) h.2.2.2.2.2.2.1, fun s hs => KLw_fr hF (by decide) (h.2.2.2.2.2.2.2.1 s hs), fun s hs => KG_fr hF (by decide) (h.2.2.2.2.2.2.2.2.1 s hs), fun s hs => KPg_fr hF (by decide) (h.2.2.2.2.2.2.2.2.2.1 s hs), fun s hs => KCh_fr hF (by decide) (h.2.2.2.2.2.2.2.2.2.2.1 s hs), fun s hs => KMc_fr hF (by decide) (h.2.2.2.2.2.2.2.2.2.2.2.1 s hs), fun s hs => KPc_fr hF (by decide) (h.2.2.2.2.2.2.2.2.2.2.2.2.1 s hs), fun k hk => KCl_fr hF (by decide) (h.2.2.2.2.2.2.2.2.2.2.2.2.2.1 k hk), fun k hk => KDn_fr hF (by decide) (h.2.2.2.2.2.2.2.2.2.2.2.2.2.2.1 k hk), KAk_fr hF (by decide) h.2.2.2.2.2.2.2.2.2.2.2.2.2.2.2.1, hfc, fun s hs => KId_fr hF (by decide) (h.2.2.2.2.2.2.2.2.2.2.2.2.2.2.2.2.2.1 s hs), fun k hk => KIc_fr hF (by decide) (h.2.2.2.2.2.2.2.2.2.2.2.2.2.2.2.2.2.2.1 k hk), KLt_fr hF hT (by decide) h.2.2.2.2.2.2.2.2.2.2.2.2.2.2.2.2.2.2.2.1, KRm_fr hF hT (by decide) h.2.2.2.2.2.2.2.2.2.2.2.2.2.2.2.2.2.2.2.2.1, h.2.2.2.2.2.2.2.2.2.2.2.2.2.2.2.2.2.2.2.2.2.1, h.2.2.2.2.2.2.2.2.2.2.2.2.2.2.2.2.2.2.2.2.2.2⟩
theorem K_answerF {c : CS} {a : AA} {v : CV} {x : Int32} (h : RC c a v) (hx : aInR x 0 7 = true) : WP (k_Face_answer c 0 x) (fun p => RC p.2 (A_answer a x).1 v ∧ p.1 = (A_answer a x).2.2) := by
  obtain ⟨k, hk, e⟩ := inR_7 hx
  have ek : x.toNatClampNeg = k := by rw [e, i_cl (by omega)]
  have eA : A_answer a x = (aReS a (aDn a k), 0, Int32.ofNat (aDn a k).length) := by
    unfold A_answer
    rw [hx, ek]
    rfl
  obtain ⟨d1, d2, d3⟩ := h.2.2.2.2.2.2.2.2.2.2.2.2.2.2.1 k hk
  unfold k_Face_answer k_Face_answer_b0
  rw [eA, e, K_asker hk]
  refine WP_b ?_
  rw [d1]
  refine WP_eq (ccpy_n (s := 0) (t := 0) (n := (aDn a k).length) rfl rfl rfl (show 0 + (aDn a k).length ≤ 134 by omega) (show 0 + (aDn a k).length ≤ 134 by omega) (by omega) (by omega)) (WP_b ?_)
  have P0 : PX 15 0 [6, 7] c (csA c 15 0 6 (fun w => if 0 ≤ w ∧ w < 0 + (aDn a k).length then cI c 5 k 12 (0 + (w - 0)) else cI c 15 0 6 w)) := PX_A (by decide)
  have g13 : cI (csA c 15 0 6 (fun w => if 0 ≤ w ∧ w < 0 + (aDn a k).length then cI c 5 k 12 (0 + (w - 0)) else cI c 15 0 6 w)) 5 k 13 0 = Int32.ofNat (aDn a k).length := (PX_c P0 (by decide)).trans d1
  have g6 : ∀ i, i < (aDn a k).length → cI (csA c 15 0 6 (fun w => if 0 ≤ w ∧ w < 0 + (aDn a k).length then cI c 5 k 12 (0 + (w - 0)) else cI c 15 0 6 w)) 15 0 6 i = (aDn a k).getD i 0 := by
    intro i hi
    rw [cI_A, if_pos ⟨Nat.zero_le _, by omega⟩, show 0 + (i - 0) = i by omega]
    exact d3 i hi
  rw [g13]
  generalize csA c 15 0 6 (fun w => if 0 ≤ w ∧ w < 0 + (aDn a k).length then cI c 5 k 12 (0 + (w - 0)) else cI c 15 0 6 w) = c1 at P0 g6
  refine WP_some ⟨RC_re h (PX_t P0 (PX_I (by decide))) csI_e d2 (fun i hi => (csI_f (by decide)).trans (g6 i hi)), ?_⟩
  show cI (csI c1 15 0 7 0 (Int32.ofNat (aDn a k).length)) 15 0 7 0 = Int32.ofNat (aDn a k).length
  exact csI_e
