/-! letters that a server makes -/
theorem lF1 : lFs 1 = [7, 8] := by decide
theorem lF3 : lFs 3 = [7, 8] := by decide
theorem lF2 : lFs 2 = [6] := by decide
theorem lF4 : lFs 4 = [6] := by decide
theorem lF5 : lFs 5 = [7, 8, 9, 10] := by decide
theorem lF6 : lFs 6 = [6, 7, 10] := by decide
theorem lF7 : lFs 7 = [7, 8, 11, 12, 13, 10] := by decide
theorem lF8 : lFs 8 = [7, 12, 10] := by decide
theorem lF9 : lFs 9 = [] := by decide
theorem lF10 : lFs 10 = [6, 14, 15, 16, 12] := by decide
theorem lF11 : lFs 11 = [6] := by decide
/-- what letterTo lays -/
def L6 (c : CS) (ad : Nat) (f t k tm : Int32) : Prop := cI c 8 ad 2 0 = f ∧ cI c 8 ad 3 0 = t ∧ cI c 8 ad 4 0 = k ∧ cI c 8 ad 5 0 = tm ∧ cI c 8 ad 6 0 = 0 ∧ cI c 8 ad 17 0 = 0
theorem K_letterTo {c : CS} {a : AA} {s : Nat} {to k : Int32} {H : List (Nat × Option AL)} {U : Nat → Int32} {N : Nat × Nat} (h : RC c a ((H, U), N)) (hs : s < 7) (hH : H.length ≤ 6) : WP (k_Server_letterTo c s to k) (fun p => RC p.2 a (((p.1, none) :: H, U), N) ∧ L6 p.2 p.1 (Int32.ofNat s) to k (aS a 53 s)) := by
  unfold k_Server_letterTo k_Server_letterTo_b0
  refine WP_call (K_blank h hH) (fun p hp => ?_)
  obtain ⟨h1, _, _⟩ := hp
  have e1 : cI p.2 13 s 0 0 = Int32.ofNat s := (h1.2.2.2.2.2.2.2.2.2.2.2.2.2.2.2.2.2.1 s hs).1
  refine WP_b (WP_b (WP_b (WP_b (WP_b (WP_b (WP_some ⟨RC_I8 (RC_I8 (RC_I8 (RC_I8 (RC_I8 (RC_I8 h1))))), ?_⟩))))))
  refine ⟨?_, ?_, ?_, ?_, ?_, csI_e⟩
  · rw [csI_f (by decide), csI_f (by decide), csI_f (by decide), csI_f (by decide), csI_f (by decide), csI_e]
    exact e1
  · rw [csI_f (by decide), csI_f (by decide), csI_f (by decide), csI_f (by decide), csI_e]
  · rw [csI_f (by decide), csI_f (by decide), csI_f (by decide), csI_e]
  · rw [csI_f (by decide), csI_f (by decide), csI_e, csI_cl (by decide), csI_cl (by decide), csI_cl (by decide)]
    exact K_r h1 (F := 53) (cl := 13) (f := 10) (by decide) hs
  · rw [csI_f (by decide), csI_e]
theorem LR_mk {c : CS} {ad : Nat} {l : AL} (e2 : cI c 8 ad 2 0 = l.1 2) (e3 : cI c 8 ad 3 0 = l.1 3) (e4 : cI c 8 ad 4 0 = l.1 4) (e5 : cI c 8 ad 5 0 = l.1 5) (ef : ∀ j ∈ lFs (l.1 4), cI c 8 ad j 0 = l.1 j) (hk : l.1 4 ≠ 5 ∧ l.1 4 ≠ 7 ∧ l.1 4 ≠ 11) : LR c ad l := by
  refine ⟨fun j hj => ?_, ef, fun z => absurd z hk.1, fun z => absurd z hk.2.1, fun z => absurd z hk.2.2⟩
  simp only [List.mem_cons, List.not_mem_nil, or_false] at hj
  rcases hj with rfl | rfl | rfl | rfl
  · exact e2
  · exact e3
  · exact e4
  · exact e5
theorem cadd7 {c : CS} {a : AA} {s ad : Nat} {l : AL} {H : List (Nat × Option AL)} {U : Nat → Int32} {N : Nat × Nat} (h : RC c a (((ad, some l) :: H, U), N)) (hs : s < 7) (hl : (aWt a s).length < 32) : WP (cladd c 13 s 7 ad) (fun c' => RC c' (aWtS a s (aWt a s ++ [l])) ((H, U), N)) := by
  have hp : lsP 13 s 7 := Or.inr (Or.inr ⟨rfl, hs, rfl⟩)
  obtain ⟨n, T, e, hr, hT⟩ := KRm_put (l := cS c 13 s 7 ++ [ad]) (v' := ((H, U), N)) hp h.2.2.2.2.2.2.2.2.2.2.2.2.2.2.2.2.2.2.2.2.1 rfl (by rw [List.length_append, List.length_singleton]; show _ + H.length = _ + (H.length + 1); omega)
  unfold cladd
  refine ⟨_, e, ?_⟩
  have hF : Ck [32 * 13 + 7] s c (csS c 13 s 7 (cS c 13 s 7 ++ [ad]) n T) := Ck_S (Or.inr rfl)
  have hk := h.2.2.2.2.2.2.2.2.2.2.2.2.2.2.2.2.2.2.2.1
  have hlr : LR c ad l := RC_hand h List.mem_cons_self
  have hl2 : KLt (csS c 13 s 7 (cS c 13 s 7 ++ [ad]) n T) (aWtS a s (aWt a s ++ [l])) H := KLt_S hp hk hT (fun x => by rw [cnt_1, cnt_H]; omega) hk.2.1 hk.2.2.2.2.2.2 hk.2.2.2.2.1 (fun t ht => by
    have e1 : cS (csS c 13 s 7 (cS c 13 s 7 ++ [ad]) n T) 13 t 7 = if t = s then cS c 13 s 7 ++ [ad] else cS c 13 t 7 := by
      rw [csS_Sk]
      by_cases q : t = s
      · rw [if_pos ⟨rfl, q, rfl⟩, if_pos q]
      · rw [if_neg (fun z => q z.2.1), if_neg q]
    have e2 : aWt (aWtS a s (aWt a s ++ [l])) t = if t = s then aWt a s ++ [l] else aWt a t := rfl
    rw [e1, e2]
    by_cases q : t = s
    · rw [if_pos q, if_pos q]
      refine ⟨F2_app (hk.2.2.1 s hs) ⟨hlr, True.intro⟩, ?_⟩
      rw [List.length_append, List.length_singleton, F2_len (hk.2.2.1 s hs)]
      omega
    · rw [if_neg q, if_neg q]
      exact ⟨hk.2.2.1 t ht, hk.2.2.2.2.2.1 t ht⟩) (hdH hk.2.2.2.1)
  exact ⟨KSc_fr hF (by decide) h.1, fun s hs hu => KFr_fr hF (by decide) (h.2.1 s hs hu), fun s hs => KHd_fr hF (by decide) (h.2.2.1 s hs), fun s hs hr => KLd_fr hF (by decide) (h.2.2.2.1 s hs hr), fun s hs hu => KRq_fr hF (by decide) (h.2.2.2.2.1 s hs hu), KBl_fr hF (by decide) h.2.2.2.2.2.1, KDa_fr hF (by decide) h.2.2.2.2.2.2.1, fun s hs => KLw_fr hF (by decide) (h.2.2.2.2.2.2.2.1 s hs), fun s hs => KG_fr hF (by decide) (h.2.2.2.2.2.2.2.2.1 s hs), fun s hs => KPg_fr hF (by decide) (h.2.2.2.2.2.2.2.2.2.1 s hs), fun s hs => KCh_fr hF (by decide) (h.2.2.2.2.2.2.2.2.2.2.1 s hs), fun s hs => KMc_fr hF (by decide) (h.2.2.2.2.2.2.2.2.2.2.2.1 s hs), fun s hs => KPc_fr hF (by decide) (h.2.2.2.2.2.2.2.2.2.2.2.2.1 s hs), fun k hk => KCl_fr hF (by decide) (h.2.2.2.2.2.2.2.2.2.2.2.2.2.1 k hk), fun k hk => KDn_fr hF (by decide) (h.2.2.2.2.2.2.2.2.2.2.2.2.2.2.1 k hk), KAk_fr hF (by decide) h.2.2.2.2.2.2.2.2.2.2.2.2.2.2.2.1, KFc_fr hF (by decide) h.2.2.2.2.2.2.2.2.2.2.2.2.2.2.2.2.1, fun s hs => KId_fr hF (by decide) (h.2.2.2.2.2.2.2.2.2.2.2.2.2.2.2.2.2.1 s hs), fun k hk => KIc_fr hF (by decide) (h.2.2.2.2.2.2.2.2.2.2.2.2.2.2.2.2.2.2.1 k hk), hl2, hr, h.2.2.2.2.2.2.2.2.2.2.2.2.2.2.2.2.2.2.2.2.2.1, h.2.2.2.2.2.2.2.2.2.2.2.2.2.2.2.2.2.2.2.2.2.2⟩
theorem K_dispatch {F : Nat} {c : CS} {a : AA} {s ad : Nat} {l : AL} {H : List (Nat × Option AL)} {U : Nat → Int32} {N : Nat × Nat} (hF : 130 ≤ F) (h : RC c a (((ad, some l) :: H, U), N)) (hs : s < 7) (w : wfL l) (hH : H.length ≤ 5) : WP (k_Server_dispatch F c s ad) (fun c' => RC c' (A_post a s l) ((H, U), N)) := by
  unfold k_Server_dispatch k_Server_dispatch_b0 k_Server_dispatch_b54 A_post
  rw [K_r h (F := 71) (cl := 13) (f := 9) (by decide) hs]
  have hlen := F2_len (h.2.2.2.2.2.2.2.2.2.2.2.2.2.2.2.2.2.2.2.1.2.2.1 s hs)
  have h32 := h.2.2.2.2.2.2.2.2.2.2.2.2.2.2.2.2.2.2.2.1.2.2.2.2.2.1 s hs
  refine WP_if c0_ne (fun q => ?_) (fun q => ?_)
  · rw [if_neg q]
    have ec : xc2 .ge (clsz c 13 s 7) 32 = true ↔ ¬ (aWt a s).length < 32 := by
      unfold clsz
      rw [hlen, show (32 : Int32) = Int32.ofNat 32 from rfl, i_gei (by omega) (by omega)]
      omega
    refine WP_if ec (fun q2 => ?_) (fun q2 => ?_)
    · rw [if_neg q2]
      exact WP_call (K_spare h) (fun c' h' => WP_some h')
    · rw [if_pos (Classical.not_not.mp q2)]
      exact WP_call (cadd7 h hs (Classical.not_not.mp q2)) (fun c' h' => WP_some h')
  · rw [if_pos (Classical.not_not.mp q)]
    exact WP_call (K_post hF h w hH) (fun c' h' => WP_some h')
/-- an end of a letter of a server -/
theorem end_s {s : Nat} (hs : s < 7) : aInR (Int32.ofNat s) 0 6 = true := by
  unfold aInR
  have h1 := (by decide +kernel : ∀ s, s < 7 → (decide ((0 : Int32) ≤ Int32.ofNat s) && decide (Int32.ofNat s ≤ 6)) = true) s hs
  exact h1
theorem wf_of {s : Nat} {t : Int32} {l : AL} (hs : s < 7) (ht : aInR t 0 6 = true ∨ aInR t 8 15 = true) (e2 : l.1 2 = Int32.ofNat s) (e3 : l.1 3 = t) : wfL l := by
  unfold wfL
  rw [e2, e3]
  exact ⟨Or.inl (end_s hs), ht⟩
theorem RC_b1 {c : CS} {a : AA} {v : CV} {s : Nat} (h : RC c a v) (hs : s < 7) : cI c 13 s 0 0 = Int32.ofNat s := (h.2.2.2.2.2.2.2.2.2.2.2.2.2.2.2.2.2.1 s hs).1
theorem K_appended {F : Nat} {c : CS} {a : AA} {s : Nat} {f w p r : Int32} {H : List (Nat × Option AL)} {U : Nat → Int32} {N : Nat × Nat} (hF : 130 ≤ F) (h : RC c a ((H, U), N)) (hs : s < 7) (hf : aInR f 0 6 = true ∨ aInR f 8 15 = true) (hH : H.length ≤ 5) : WP (k_Server_sendAppended F c s f w p r) (fun c' => RC c' (aAppended a s f w p r) ((H, U), N)) := by
  unfold k_Server_sendAppended k_Server_sendAppended_b0 aAppended A_tell
  refine WP_call (K_letterTo h hs (by omega)) (fun q hq => ?_)
  obtain ⟨h1, l2, l3, l4, l5, l6, l17⟩ := hq
  refine WP_b (WP_b (WP_b ?_))
  have h2 := RC_I8 (ad := q.1) (f := 10) (j := 0) (x := r) (RC_I8 (ad := q.1) (f := 7) (j := 0) (x := p) (RC_I8 (ad := q.1) (f := 6) (j := 0) (x := w) h1))
  refine WP_call (K_dispatch hF (RC_fin h2 (LR_mk ?_ ?_ ?_ ?_ ?_ ?_)) hs (wf_of hs hf rfl rfl) hH) (fun c' h' => WP_some h')
  · rw [csI_f (by decide), csI_f (by decide), csI_f (by decide), l2]
    rfl
  · rw [csI_f (by decide), csI_f (by decide), csI_f (by decide), l3]
    rfl
  · rw [csI_f (by decide), csI_f (by decide), csI_f (by decide), l4]
    rfl
  · rw [csI_f (by decide), csI_f (by decide), csI_f (by decide), l5]
    rfl
  · show ∀ j ∈ lFs 6, _
    rw [lF6]
    intro j hj
    simp only [List.mem_cons, List.not_mem_nil, or_false] at hj
    rcases hj with rfl | rfl | rfl
    · rw [csI_f (by decide), csI_f (by decide), csI_e]
      rfl
    · rw [csI_f (by decide), csI_e]
      rfl
    · rw [csI_e]
      rfl
  · exact ⟨show (6 : Int32) ≠ 5 by decide, show (6 : Int32) ≠ 7 by decide, show (6 : Int32) ≠ 11 by decide⟩
theorem K_stored {F : Nat} {c : CS} {a : AA} {s : Nat} {f b z r : Int32} {H : List (Nat × Option AL)} {U : Nat → Int32} {N : Nat × Nat} (hF : 130 ≤ F) (h : RC c a ((H, U), N)) (hs : s < 7) (hf : aInR f 0 6 = true ∨ aInR f 8 15 = true) (hH : H.length ≤ 5) : WP (k_Server_sendStored F c s f b z r) (fun c' => RC c' (aStored a s f b z r) ((H, U), N)) := by
  unfold k_Server_sendStored k_Server_sendStored_b0 aStored A_tell
  refine WP_call (K_letterTo h hs (by omega)) (fun q hq => ?_)
  obtain ⟨h1, l2, l3, l4, l5, l6, l17⟩ := hq
  refine WP_b (WP_b (WP_b ?_))
  have h2 := RC_I8 (ad := q.1) (f := 10) (j := 0) (x := r) (RC_I8 (ad := q.1) (f := 12) (j := 0) (x := z) (RC_I8 (ad := q.1) (f := 7) (j := 0) (x := b) h1))
  refine WP_call (K_dispatch hF (RC_fin h2 (LR_mk ?_ ?_ ?_ ?_ ?_ ?_)) hs (wf_of hs hf rfl rfl) hH) (fun c' h' => WP_some h')
  · rw [csI_f (by decide), csI_f (by decide), csI_f (by decide), l2]
    rfl
  · rw [csI_f (by decide), csI_f (by decide), csI_f (by decide), l3]
    rfl
  · rw [csI_f (by decide), csI_f (by decide), csI_f (by decide), l4]
    rfl
  · rw [csI_f (by decide), csI_f (by decide), csI_f (by decide), l5]
    rfl
  · show ∀ j ∈ lFs 8, _
    rw [lF8]
    intro j hj
    simp only [List.mem_cons, List.not_mem_nil, or_false] at hj
    rcases hj with rfl | rfl | rfl
    · rw [csI_f (by decide), csI_f (by decide), csI_e]
      rfl
    · rw [csI_f (by decide), csI_e]
      rfl
    · rw [csI_e]
      rfl
  · exact ⟨show (8 : Int32) ≠ 5 by decide, show (8 : Int32) ≠ 7 by decide, show (8 : Int32) ≠ 11 by decide⟩
theorem kbz {b : Bool} : xc0 .eq (aB b) = true ↔ b = false := kb1
theorem K_vote {F : Nat} {c : CS} {a : AA} {s : Nat} {f k t : Int32} {b : Bool} {H : List (Nat × Option AL)} {U : Nat → Int32} {N : Nat × Nat} (hF : 130 ≤ F) (h : RC c a ((H, U), N)) (hs : s < 7) (hk : k = 2 ∨ k = 4) (hf : aInR f 0 6 = true ∨ aInR f 8 15 = true) (hH : H.length ≤ 5) : WP (k_Server_sendVote F c s f k t (aB b)) (fun c' => RC c' (aVote a s f k t b) ((H, U), N)) := by
  unfold k_Server_sendVote k_Server_sendVote_b0 k_Server_sendVote_b26 aVote
  refine WP_call (K_letterTo h hs (by omega)) (fun q hq => ?_)
  obtain ⟨h1, l2, l3, l4, l5, l6, l17⟩ := hq
  refine WP_b ?_
  have key : ∀ x, x = aB b → WP ((some (csI (csI q.2 8 q.1 5 0 t) 8 q.1 6 0 x)).bind fun σ1 => (k_Server_dispatch F σ1 s q.1).bind fun p3 => some p3) (fun c' => RC c' (A_post a s (aU (aLet (Int32.ofNat s) f k t).1 6 (aB b), [], [], ([], []))) ((H, U), N)) := by
    rintro x rfl
    refine WP_b ?_
    have h2 := RC_I8 (ad := q.1) (f := 6) (j := 0) (x := aB b) (RC_I8 (ad := q.1) (f := 5) (j := 0) (x := t) h1)
    refine WP_call (K_dispatch hF (RC_fin h2 (LR_mk ?_ ?_ ?_ ?_ ?_ ?_)) hs (wf_of hs hf rfl rfl) hH) (fun c' h' => WP_some h')
    · rw [csI_f (by decide), csI_f (by decide), l2]
      rfl
    · rw [csI_f (by decide), csI_f (by decide), l3]
      rfl
    · rw [csI_f (by decide), csI_f (by decide), l4]
      rfl
    · rw [csI_f (by decide), csI_e]
      rfl
    · have e : lFs k = [6] := by
        rcases hk with rfl | rfl
        · exact lF2
        · exact lF4
      show ∀ j ∈ lFs k, _
      rw [e]
      intro j hj
      simp only [List.mem_cons, List.not_mem_nil, or_false] at hj
      subst hj
      rw [csI_e]
      rfl
    · show k ≠ 5 ∧ k ≠ 7 ∧ k ≠ 11
      rcases hk with rfl | rfl <;> decide
  refine WP_if kbz (fun z => ?_) (fun z => ?_)
  · exact key 0 (by rw [z]; rfl)
  · exact key 1 (by rw [show b = true by simpa using z]; rfl)
