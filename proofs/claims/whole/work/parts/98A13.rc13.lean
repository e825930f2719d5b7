/-! files are cut -/
theorem eOK_25 {es : List AE} (h : ∀ e ∈ es, eOK e) : ∀ e ∈ es, 25 ≤ aEsz e := fun e he => by
  have := (h e he).1
  unfold aEsz
  omega
theorem aFrame_d {es : List AE} {k : Nat} : aFrame es k = 24 + ((es.take k).map aEsz).sum := rfl
/-- how many entries are whole -/
theorem aw_le {es : List AE} {m : Int} {k : Nat} (h : ∀ e ∈ es, eOK e) (hk : k ≤ es.length) (hk0 : 0 < k) : k ≤ aWholes es m ↔ aFrame es k ≤ m + 24 := by
  have h25 := eOK_25 h
  rw [aFrame_d]
  constructor
  · intro z
    by_cases q : 0 ≤ m
    · have h1 := (aWholes_b es m q).1
      have h2 := (aFrame_mono h25 z).2
      rw [aFrame_d, aFrame_d] at h2
      omega
    · exfalso
      have : aWholes es m = 0 := by
        cases es with
        | nil => rfl
        | cons e r =>
          unfold aWholes
          have := h25 e List.mem_cons_self
          rw [if_neg (by omega)]
      omega
  · intro z
    have h1 := aWholes_k es k hk h25
    have h2 := aWholes_mono es ((es.take k).map aEsz).sum m (by omega)
    omega
theorem i_ofI {x : Int} (h0 : 0 ≤ x) (h1 : x < 2147483648) : (Int32.ofInt x).toInt = x := by
  rw [Int32.toInt_ofInt_of_le (by omega) (by omega)]
theorem aU_self {α : Type} {w : Nat → α} {i : Nat} : aU w i (w i) = w := by
  funext j
  unfold aU
  by_cases q : j = i
  · rw [if_pos q, q]
  · rw [if_neg q]
theorem aMin_t {x y : Int32} : (aMin x y).toInt = if x.toInt ≤ y.toInt then x.toInt else y.toInt := by
  unfold aMin
  by_cases q : x ≤ y
  · rw [if_pos q, if_pos (Int32.le_iff_toInt_le.mp q)]
  · rw [if_neg q, if_neg (fun z => q (Int32.le_iff_toInt_le.mpr z))]
/-- only these fields of a page changed -/
def P11 (q : Nat) (fs : List Nat) (c c' : CS) : Prop := (∀ cl i f, ¬ (cl = 11 ∧ i = q ∧ f ∈ fs) → Sm c c' cl i f) ∧ cT c' = cT c ∧ cL c' = cL c ∧ cS c' = cS c
theorem P11_r {q : Nat} {fs : List Nat} {c : CS} : P11 q fs c c := ⟨fun _ _ _ _ => Sm_r, rfl, rfl, rfl⟩
theorem P11_t {q : Nat} {fs : List Nat} {c c' c2 : CS} (h : P11 q fs c c') (h' : P11 q fs c' c2) : P11 q fs c c2 := ⟨fun cl i f z => Sm_t (h.1 cl i f z) (h'.1 cl i f z), h'.2.1.trans h.2.1, h'.2.2.1.trans h.2.2.1, h'.2.2.2.trans h.2.2.2⟩
theorem P11_I {q f j : Nat} {fs : List Nat} {c : CS} {x : Int32} (hf : f ∈ fs) : P11 q fs c (csI c 11 q f j x) := ⟨fun cl i g z => ⟨fun y => if_neg (fun w => z ⟨w.1, w.2.1, by rw [w.2.2.1]; exact hf⟩), fun _ => rfl, rfl, rfl⟩, rfl, rfl, rfl⟩
theorem P11_k {q s : Nat} {fs D : List Nat} {c c' : CS} (h : P11 q fs c c') (hq : cOwn 11 q = s) (hD : ∀ f ∈ fs, 32 * 11 + f ∈ D) : Ck D s c c' := by
  intro cl i f hf z
  refine h.1 cl i f (fun y => ?_)
  obtain ⟨rfl, rfl, y3⟩ := y
  rcases z with z | ⟨_, z⟩
  · exact z (hD f y3)
  · exact z hq
theorem cutL {F : Nat} {q : Nat} {n : Int32} {es : List AE} {c0 : CS} (he : ∀ e ∈ es, eOK e) (hm : ∀ i, i < cL c0 11 q 7 → i < es.length → aFrame es (i + 1) < 2147483648 → cI c0 11 q 7 i = cI c0 11 q 7 i) :
    ∀ (N k : Nat) (c : CS), k < N → k ≤ es.length → k ≤ 320 → k ≤ cL c 11 q 7 → (∀ i, i < k → cI c 11 q 7 i = Int32.ofInt (aFrame es (i + 1)) ∧ aFrame es (i + 1) < 2147483648) → cI c 11 q 5 0 = Int32.ofNat k →
    WP (k_Page_cutTo_b13 F N c q n) (fun c' => P11 q [1, 5] c c' ∧ cI c' 11 q 1 0 = cI c 11 q 1 0 ∧ cI c' 11 q 5 0 = Int32.ofNat (min k (aWholes es (n.toInt - 24)))) := by
  intro N
  induction N with
  | zero => intro k c h1; omega
  | succ N ih =>
    intro k c h1 h2 h3 h4 h5 h6
    unfold k_Page_cutTo_b13
    dsimp only
    unfold k_Page_cutTo_b48
    rw [h6]
    cases k with
    | zero =>
      rw [if_pos (by decide)]
      exact WP_some ⟨P11_r, rfl, by rw [h6, Nat.zero_min]⟩
    | succ k =>
      rw [if_neg (fun z => by
        have := c0_le.mp z
        rw [Int32.le_iff_toInt_le, Int32.toInt_ofNat_of_lt (by omega), i_0] at this
        omega), i_pre (by omega)]
      refine WP_eq (crd_n rfl (show k < cL c 11 q 7 by omega) (by omega)) ?_
      obtain ⟨e1, e2⟩ := h5 k (by omega)
      have h24 := (aFrame_mono (k := k + 1) (l := k + 1) (eOK_25 he) (Nat.le_refl _)).1
      rw [show k + 1 - 1 = k by omega, e1]
      have ek := aw_le (m := n.toInt - 24) he h2 (by omega)
      refine WP_if (p := aFrame es (k + 1) ≤ n.toInt) (by rw [c2_le, Int32.le_iff_toInt_le, i_ofI (by omega) e2]) (fun z => ?_) (fun z => ?_)
      · refine WP_some ⟨P11_r, rfl, ?_⟩
        rw [h6, Nat.min_eq_left (ek.mpr (by omega))]
      · have hlt : aWholes es (n.toInt - 24) < k + 1 := by
          rcases Nat.lt_or_ge (aWholes es (n.toInt - 24)) (k + 1) with y | y
          · exact y
          · exact absurd (ek.mp y) (by omega)
        refine WP_b (WP_mono (ih k (csI c 11 q 5 0 (Int32.ofNat k)) (by omega) (by omega) (by omega) (show k ≤ cL c 11 q 7 by omega) (fun i hi => ?_) csI_e) (fun c' hc' => ?_))
        · rw [csI_f (by decide)]
          exact h5 i (by omega)
        · obtain ⟨p1, p2, p3⟩ := hc'
          refine ⟨P11_t (P11_I (by simp)) p1, p2.trans (csI_f (by decide)), ?_⟩
          rw [p3, Nat.min_eq_right (by omega), Nat.min_eq_right (by omega)]
theorem K_pageCut {F : Nat} {q : Nat} {n : Int32} {G : AF} {c : CS} (hF : 322 ≤ F) (h : PG c q G) : WP (k_Page_cutTo F c q n) (fun c' => P11 q [1, 5] c c' ∧ PG c' q (aU G.1 1 (aMin (G.1 1) n), G.2)) := by
  obtain ⟨y0, y1, y2, y3, y4, y5, y6, y7, y8, y9, y10, y11⟩ := id h
  unfold k_Page_cutTo k_Page_cutTo_b0 k_Page_cutTo_b48
  rw [y1]
  refine WP_if c2_le (fun z => ?_) (fun z => ?_)
  · refine WP_some ⟨P11_r, ?_⟩
    have : aMin (G.1 1) n = G.1 1 := if_pos z
    rw [this, aU_self]
    exact h
  · have em : aMin (G.1 1) n = n := if_neg z
    rw [em]
    have zt : n.toInt < (G.1 1).toInt := by
      have := i_nle.mp z
      rw [Int32.lt_iff_toInt_lt] at this
      exact this
    have hlen : (aWhole G).length = aWholes G.2.1 ((G.1 1).toInt - 24) := aWhole_len
    have hwle := aWholes_le G.2.1 ((G.1 1).toInt - 24)
    have hb : ∀ i, i < (aWhole G).length → aFrame G.2.1 (i + 1) < 2147483648 := fun i hi => by
      have := (aw_le (es := G.2.1) (m := (G.1 1).toInt - 24) (k := i + 1) y11 (by omega) (by omega)).mp (by omega)
      have := Int32.toInt_lt (G.1 1)
      omega
    refine WP_b (WP_mono (cutL (F := F) (q := q) (n := n) (es := G.2.1) (c0 := c) y11 (fun _ _ _ _ => rfl) F (aWhole G).length (csI c 11 q 1 0 n) (by omega) (by omega) y10 y7 (fun i hi => ⟨(csI_f (by decide)).trans (y6 i hi).2, hb i hi⟩) ((csI_f (by decide)).trans y5)) (fun c' hc' => ?_))
    obtain ⟨p1, p2, p3⟩ := hc'
    have pp : P11 q [1, 5] c c' := P11_t (P11_I (by simp)) p1
    refine ⟨pp, ?_⟩
    have hmono := aWholes_mono G.2.1 (n.toInt - 24) ((G.1 1).toInt - 24) (by omega)
    have ew : aWhole ((aU G.1 1 n, G.2) : AF) = G.2.1.take (aWholes G.2.1 (n.toInt - 24)) := rfl
    have el : (aWhole ((aU G.1 1 n, G.2) : AF)).length = aWholes G.2.1 (n.toInt - 24) := by
      rw [ew, List.length_take]
      omega
    have e : ∀ f, f ∉ [1, 5] → ∀ j, cI c' 11 q f j = cI c 11 q f j := fun f hf j => (pp.1 11 q f (fun w => hf w.2.2)).1 j
    have eL : cL c' = cL c := pp.2.2.1
    refine ⟨(e 0 (by decide) 0).trans y0, ?_, (e 2 (by decide) 0).trans y2, (e 3 (by decide) 0).trans y3, (e 4 (by decide) 0).trans y4, ?_, fun i hi => ⟨fun j hj => ?_, ?_⟩, ?_, ?_, y9, ?_, y11⟩
    · rw [p2, csI_e]
      rfl
    · rw [p3, el, Nat.min_eq_right (by omega)]
    · rw [el] at hi
      rw [e 6 (by decide), (y6 i (by omega)).1 j hj]
      have e1 : (aWhole G).getD i aE0 = G.2.1.getD i aE0 := by
        unfold aWhole
        rw [List.getD_eq_getElem?_getD, List.getD_eq_getElem?_getD, List.getElem?_take, if_pos (by omega)]
      have e2 : (aWhole ((aU G.1 1 n, G.2) : AF)).getD i aE0 = G.2.1.getD i aE0 := by
        rw [ew, List.getD_eq_getElem?_getD, List.getD_eq_getElem?_getD, List.getElem?_take, if_pos (by omega)]
      rw [e1, e2]
    · rw [el] at hi
      rw [e 7 (by decide)]
      exact (y6 i (by omega)).2
    · rw [el, eL]
      omega
    · rw [eL]
      exact y8
    · rw [el]
      omega
theorem take_min {α : Type} {l : List α} {m k : Nat} (h : m ≤ k) : (l.take k).take m = l.take m := by rw [List.take_take, Nat.min_eq_left h]
theorem aWhole_cut {G : AF} {z : Int32} (hz : z.toInt ≤ (G.1 1).toInt) : aWhole ((aU G.1 1 z, G.2) : AF) = (aWhole G).take (aWhole ((aU G.1 1 z, G.2) : AF)).length ∧ (aWhole ((aU G.1 1 z, G.2) : AF)).length ≤ (aWhole G).length := by
  have h1 := aWholes_mono G.2.1 (z.toInt - 24) ((G.1 1).toInt - 24) (by omega)
  have h2 := aWholes_le G.2.1 ((G.1 1).toInt - 24)
  have e1 : aWhole ((aU G.1 1 z, G.2) : AF) = G.2.1.take (aWholes G.2.1 (z.toInt - 24)) := rfl
  have e2 : aWhole G = G.2.1.take (aWholes G.2.1 ((G.1 1).toInt - 24)) := rfl
  rw [e1, e2, List.length_take, List.length_take, Nat.min_eq_left (by omega), Nat.min_eq_left (by omega), take_min h1]
  exact ⟨rfl, h1⟩
theorem cmin_n {m k : Nat} (hm : m < 2147483648) (hk : k < 2147483648) : cmin (Int32.ofNat m) (Int32.ofNat k) = Int32.ofNat (min m k) := by
  unfold cmin
  by_cases q : k < m
  · rw [if_pos (by rw [Int32.lt_iff_toInt_lt, Int32.toInt_ofNat_of_lt hm, Int32.toInt_ofNat_of_lt hk]; omega), Nat.min_eq_right (by omega)]
  · rw [if_neg (by rw [Int32.lt_iff_toInt_lt, Int32.toInt_ofNat_of_lt hm, Int32.toInt_ofNat_of_lt hk]; omega), Nat.min_eq_left (by omega)]
/-- a file of slots or a segment is cut -/
theorem K_cutTo {F : Nat} {c : CS} {a : AA} {v : CV} {s f : Nat} {n : Int32} (hF : 322 ≤ F) (h : RC c a v) (hs : s < 7) (hf : f < 16) (h23 : f ≠ 2 ∧ f ≠ 3) : WP (k_Disk_cutTo F c s (Int32.ofNat f) n) (fun c' => RC c' (aCut a s f n) v) := by
  obtain ⟨y1, y2, y3, y4⟩ := h.2.2.2.2.2.2.2.2.2.1 s hs f hf
  have ow : cOwn 11 (30 * s + cpg f) = s := (if_pos rfl).trans (pg_o hf).1
  have hne : ckp f ≠ cpg f := fun z => by
    have := ((cpg_i f hf f hf).2.2.mp z.symm).2
    omega
  have hz : (aMin ((aFc a s f).1 1) n).toInt ≤ ((aFc a s f).1 1).toInt := by
    rw [aMin_t]
    split <;> omega
  obtain ⟨w1, w2⟩ := aWhole_cut (G := aFc a s f) hz
  have ec : aCut a s f n = aI (aPut a s f (aU (aFc a s f).1 1 (aMin ((aFc a s f).1 1) n), (aFc a s f).2)) 43 (16 * s + f) (aMin (aS a 43 (16 * s + f)) (aMin ((aFc a s f).1 1) n)) := rfl
  rw [ec]
  unfold k_Disk_cutTo k_Disk_cutTo_b0
  rw [cix0 hf]
  refine WP_b (WP_call (K_pageCut (n := n) hF y1) (fun c1 hc1 => ?_))
  obtain ⟨p1, p2⟩ := hc1
  have e1' : ((aU (aFc a s f).1 1 (aMin ((aFc a s f).1 1) n), (aFc a s f).2) : AF).1 1 = aMin ((aFc a s f).1 1) n := rfl
  generalize hG : ((aU (aFc a s f).1 1 (aMin ((aFc a s f).1 1) n), (aFc a s f).2) : AF) = G at p2 w1 w2 e1' ⊢
  have e6 : ∀ f j, cI c1 6 s f j = cI c 6 s f j := fun g j => (p1.1 6 s g (fun w => by omega)).1 j
  refine WP_eq (crd_n rfl (show f < 16 from hf) (by omega)) (WP_b (WP_eq (cwr_n rfl (show f < 16 from hf) (by omega)) ?_))
  rw [e6, h.2.2.2.2.2.2.2.1 s hs f hf, p2.2.1, e1']
  refine WP_eq (crd_n rfl (show f < 16 from hf) (by omega)) (WP_b (WP_eq (cwr_n rfl (show f < 16 from hf) (by omega)) (WP_some ?_)))
  obtain ⟨m, m1, m2, m3, m4⟩ := y3 h23.1 h23.2
  have e3 : cI (csI c1 6 s 2 f (cmin (aS a 43 (16 * s + f)) (aMin ((aFc a s f).1 1) n))) 6 s 3 f = Int32.ofNat m := (csI_f (by decide)).trans ((e6 3 f).trans m1)
  have e5 : cI (csI c1 6 s 2 f (cmin (aS a 43 (16 * s + f)) (aMin ((aFc a s f).1 1) n))) 11 (30 * s + cpg f) 5 0 = Int32.ofNat (aWhole G).length := (csI_cl (by decide)).trans p2.2.2.2.2.2.1
  have b1 : (aWhole (aFc a s f)).length ≤ 320 := y1.2.2.2.2.2.2.2.2.2.2.1
  rw [e3, e5, cmin_n (by omega) (by omega), cmin_a]
  have hF0 : Ck [353, 357, 194, 195] s c (csI (csI c1 6 s 2 f (aMin (aS a 43 (16 * s + f)) (aMin ((aFc a s f).1 1) n))) 6 s 3 f (Int32.ofNat (min m (aWhole G).length))) :=
    Ck_w (Ck_t (Ck_t (P11_k (D := [353, 357]) p1 ow (by decide)) (Ck_I (Or.inr rfl))) (Ck_I (Or.inr rfl))) (by decide)
  have eT : cT (csI (csI c1 6 s 2 f (aMin (aS a 43 (16 * s + f)) (aMin ((aFc a s f).1 1) n))) 6 s 3 f (Int32.ofNat (min m (aWhole G).length))) = cT c := p1.2.1
  refine RC_pgc h hs hf h23 (fun y => by rw [← hG]; exact ((h.2.2.2.2.2.2.2.2.2.1 s hs f hf).2.2.2.2 y).1) (Ck_w hF0 (by decide)) (by rw [eT]; exact Nat.le_refl _) (KRm_fr hF0 eT (by decide) h.2.2.2.2.2.2.2.2.2.2.2.2.2.2.2.2.2.2.2.2.1) ?_ ?_ ?_ ?_ ?_ ?_
  · exact PG_fr (c := c1) (fun g _ => ⟨fun j => (csI_cl (by decide)).trans (csI_cl (by decide)), fun _ => rfl, rfl, rfl⟩) p2
  · refine PG_fr (c := c) (fun g _ => Sm_t (p1.1 11 (30 * s + ckp f) g (fun w => by omega)) ⟨fun j => (csI_cl (by decide)).trans (csI_cl (by decide)), fun _ => rfl, rfl, rfl⟩) y2
  · refine ⟨min m (aWhole G).length, csI_e, Nat.min_le_right _ _, by omega, ?_⟩
    have e9 := congrArg (List.take (min m (aWhole G).length)) w1
    rw [take_min (Nat.min_le_right _ _)] at e9
    rw [e9]
    have h1 := congrArg (List.take (min m (aWhole G).length)) m4
    rw [take_min (Nat.min_le_left _ _), take_min (Nat.min_le_left _ _)] at h1
    exact h1
  · intro q g hq n1 n2 hg
    exact Sm_t (p1.1 11 q g (fun w => n1 w.2.1)) ⟨fun j => (csI_cl (by decide)).trans (csI_cl (by decide)), fun _ => rfl, rfl, rfl⟩
  · intro g hg hgf
    rw [csI_j hgf, csI_f (by decide)]
    exact e6 3 g
  · intro g hg
    rw [csI_f (by decide)]
    by_cases z : g = f
    · rw [if_pos z, z, csI_e]
    · rw [if_neg z, csI_j z]
      exact e6 2 g
/-- another chain -/
theorem RC_ch {c c' : CS} {a : AA} {v : CV} {s : Nat} {ch : List Nat} (h : RC c a v) (hF : Ck [196, 197] s c c') (hT : cT c' = cT c) (hc : KCh c' s ch) : RC c' (aChS a s ch) v := by
  have hl : ∀ t, t < 7 → KCh c' t (aCh (aChS a s ch) t) := by
    intro t ht
    have e : aCh (aChS a s ch) t = if t = s then ch else aCh a t := rfl
    rw [e]
    by_cases q : t = s
    · rw [if_pos q, q]
      exact hc
    · rw [if_neg q]
      exact KCh_ne hF (by decide) q (h.2.2.2.2.2.2.2.2.2.2.1 t ht)
  exact ⟨KSc_fr hF (by decide) h.1, fun s hs hu => KFr_fr hF (by decide) (h.2.1 s hs hu), fun s hs => KHd_fr hF (by decide) (h.2.2.1 s hs), fun s hs hr => KLd_fr hF (by decide) (h.2.2.2.1 s hs hr), fun s hs hu => KRq_fr hF (by decide) (h.2.2.2.2.1 s hs hu), KBl_fr hF (by decide) h.2.2.2.2.2.1, KDa_fr hF (by decide) h.2.2.2.2.2.2.1, fun s hs => KLw_fr hF (by decide) (h.2.2.2.2.2.2.2.1 s hs), fun s hs => KG_fr hF (by decide) (h.2.2.2.2.2.2.2.2.1 s hs), fun s hs => KPg_fr hF (by decide) (h.2.2.2.2.2.2.2.2.2.1 s hs), hl, fun s hs => KMc_fr hF (by decide) (h.2.2.2.2.2.2.2.2.2.2.2.1 s hs), fun s hs => KPc_fr hF (by decide) (h.2.2.2.2.2.2.2.2.2.2.2.2.1 s hs), fun k hk => KCl_fr hF (by decide) (h.2.2.2.2.2.2.2.2.2.2.2.2.2.1 k hk), fun k hk => KDn_fr hF (by decide) (h.2.2.2.2.2.2.2.2.2.2.2.2.2.2.1 k hk), KAk_fr hF (by decide) h.2.2.2.2.2.2.2.2.2.2.2.2.2.2.2.1, KFc_fr hF (by decide) h.2.2.2.2.2.2.2.2.2.2.2.2.2.2.2.2.1, fun s hs => KId_fr hF (by decide) (h.2.2.2.2.2.2.2.2.2.2.2.2.2.2.2.2.2.1 s hs), fun k hk => KIc_fr hF (by decide) (h.2.2.2.2.2.2.2.2.2.2.2.2.2.2.2.2.2.2.1 k hk), KLt_fr hF hT (by decide) h.2.2.2.2.2.2.2.2.2.2.2.2.2.2.2.2.2.2.2.1, KRm_fr hF hT (by decide) h.2.2.2.2.2.2.2.2.2.2.2.2.2.2.2.2.2.2.2.2.1, h.2.2.2.2.2.2.2.2.2.2.2.2.2.2.2.2.2.2.2.2.2.1, h.2.2.2.2.2.2.2.2.2.2.2.2.2.2.2.2.2.2.2.2.2.2⟩
theorem K_frame {c : CS} {q k : Nat} {G : AF} {n : Int32} (h : PG c q G) (hn : n = Int32.ofNat k) (hk : 1 ≤ k) (hk2 : k ≤ (aWhole G).length) : k_Page_frameStart c q n = some (Int32.ofInt (aFrame G.2.1 k)) := by
  obtain ⟨y0, y1, y2, y3, y4, y5, y6, y7, y8, y9, y10, y11⟩ := id h
  unfold k_Page_frameStart k_Page_frameStart_b0 k_Page_frameStart_b23 k_Page_frameStart_b25
  rw [hn, y5, if_neg (fun z => by
    have := c0_le.mp z
    rw [Int32.le_iff_toInt_le, Int32.toInt_ofNat_of_lt (by omega), i_0] at this
    omega), if_neg (fun z => by
    have := c2_gt.mp z
    rw [Int32.lt_iff_toInt_lt, Int32.toInt_ofNat_of_lt (by omega), Int32.toInt_ofNat_of_lt (by omega)] at this
    omega), i_pre hk, crd_n (c := c) (cl := 11) (i := q) (f := 7) (n := k - 1) rfl (show k - 1 < cL c 11 q 7 by omega) (by omega), Option.bind_some, (y6 (k - 1) (by omega)).2, show k - 1 + 1 = k by omega]
/-- the disk's part of a cut -/
def aDCut (a : AA) (s : Nat) (n : Int32) : AA :=
  match (aBelow a s n (aCh a s)).getLast? with
  | none => aChS (aRemoveAll a s (aFrom a s n (aCh a s))) s (aBelow a s n (aCh a s))
  | some f => aCut (aChS (aRemoveAll a s (aFrom a s n (aCh a s))) s (aBelow a s n (aCh a s))) s f (Int32.ofInt (aFrame (aFc (aChS (aRemoveAll a s (aFrom a s n (aCh a s))) s (aBelow a s n (aCh a s))) s f).2.1 (n - (aFc (aChS (aRemoveAll a s (aFrom a s n (aCh a s))) s (aBelow a s n (aCh a s))) s f).1 2).toNatClampNeg))
theorem KCh_pop {c : CS} {s f : Nat} {p : List Nat} {x : Int32} (h : KCh c s (p ++ [f])) (hx : x = Int32.ofNat p.length) : KCh (csI c 6 s 5 0 x) s p := by
  obtain ⟨h1, h2, h3⟩ := h
  rw [List.length_append, List.length_singleton] at h2
  refine ⟨by rw [csI_e, hx], by omega, fun i hi => ?_⟩
  have := h3 i (by rw [List.length_append]; omega)
  rw [getD_p hi] at this
  rw [csI_f (by decide)]
  exact this
theorem ch_last {c : CS} {s f : Nat} {p : List Nat} (h : KCh c s (p ++ [f])) : cI c 6 s 5 0 = Int32.ofNat (p.length + 1) ∧ p.length + 1 ≤ 12 ∧ 4 ≤ f ∧ f < 16 ∧ cI c 6 s 4 p.length = Int32.ofNat f := by
  obtain ⟨h1, h2, h3⟩ := h
  rw [List.length_append, List.length_singleton] at h1 h2
  have := h3 p.length (by rw [List.length_append, List.length_singleton]; omega)
  rw [getD_l] at this
  exact ⟨h1, h2, this⟩
theorem dcutL {F : Nat} {a : AA} {v : CV} {s : Nat} {n : Int32} {Q : CS → Prop} (hs : s < 7)
    (fin : ∀ (pre rest : List Nat) (c : CS), pre ++ rest = aCh a s → RC c (aChS (aRemoveAll a s rest.reverse) s pre) v → (∀ x ∈ rest, n ≤ (aFc a s x).1 2) → (∀ p f, pre = p ++ [f] → (aFc a s f).1 2 < n) → WP (k_Disk_cutFrom_b56 F c s n) Q) :
    ∀ (N : Nat) (pre rest : List Nat) (c : CS), pre.length + 1 ≤ N → pre ++ rest = aCh a s → RC c (aChS (aRemoveAll a s rest.reverse) s pre) v → (∀ x ∈ rest, n ≤ (aFc a s x).1 2) → WP (k_Disk_cutFrom_b0 F N c s n) Q := by
  intro N
  induction N with
  | zero => intro pre rest c h1; omega
  | succ N ih =>
    intro pre rest c h1 h2 h3 h4
    have ech : aCh (aChS (aRemoveAll a s rest.reverse) s pre) s = pre := if_pos rfl
    have hch := h3.2.2.2.2.2.2.2.2.2.2.1 s hs
    rw [ech] at hch
    have hfc : ∀ g, (aFc (aChS (aRemoveAll a s rest.reverse) s pre) s g).1 2 = (aFc a s g).1 2 := fun g => (rmAll_fc rest.reverse a s g).1
    unfold k_Disk_cutFrom_b0
    dsimp only
    rw [hch.1]
    have hl12 := hch.2.1
    refine WP_if (p := pre = []) (by
      rw [c0_le, Int32.le_iff_toInt_le, Int32.toInt_ofNat_of_lt (by omega), i_0]
      constructor
      · intro y
        exact List.eq_nil_of_length_eq_zero (by omega)
      · intro y
        rw [y]
        exact Int.le_refl _) (fun q => ?_) (fun q => ?_)
    · exact fin pre rest c h2 h3 h4 (fun p f y => absurd (q.symm.trans y) (by simp))
    · obtain ⟨p, f, hpf⟩ : ∃ p f, pre = p ++ [f] := ⟨pre.dropLast, pre.getLast q, (List.dropLast_concat_getLast q).symm⟩
      subst hpf
      obtain ⟨z1, z2, z3, z4, z5⟩ := ch_last hch
      have hlen : (p ++ [f]).length = p.length + 1 := by simp
      rw [hlen] at h1 ⊢
      rw [i_pre (by omega), show p.length + 1 - 1 = p.length by omega]
      refine WP_eq (crd_n rfl (show p.length < 16 by omega) (by omega)) ?_
      rw [z5, cix0 z4]
      refine WP_b ?_
      rw [(h3.2.2.2.2.2.2.2.2.2.1 s hs f z4).1.2.2.1, hfc]
      refine WP_if c2_lt (fun q2 => ?_) (fun q2 => ?_)
      · exact fin _ rest c h2 h3 h4 (fun p' f' e => by
          have := List.append_inj_right' e rfl
          rw [← List.cons.inj this |>.1]
          exact q2)
      · have q2 : n ≤ (aFc a s f).1 2 := Int32.not_lt.mp q2
        have h5 : RC (csI c 6 s 5 0 (Int32.ofNat p.length)) (aChS (aChS (aRemoveAll a s rest.reverse) s (p ++ [f])) s p) v := RC_ch h3 (Ck_w (Ck_I (Or.inr rfl)) (by decide)) rfl (KCh_pop hch rfl)
        rw [aChS_chS] at h5
        refine WP_b ?_
        rw [csI_e]
        refine WP_eq (crd_n rfl (show p.length < 16 by omega) (by omega)) ?_
        rw [csI_f (by decide), z5]
        refine WP_call (K_remove h5 hs z4 ⟨by omega, by omega⟩) (fun c' h' => ?_)
        rw [aRemove_ch, ← rmAll_app, ← List.reverse_cons] at h'
        exact ih p (f :: rest) c' (by omega) (by rw [← h2]; simp) h' (fun x hx => (List.mem_cons.mp hx).elim (fun y => by rw [y]; exact q2) (h4 x))
theorem K_dCut {F : Nat} {c : CS} {a : AA} {v : CV} {s : Nat} {n : Int32} {n0 : Int} (hF : 322 ≤ F) (h : RC c a v) (hs : s < 7) (wl : WLg a s) (hn1 : aBase a s < n) (hn2 : n ≤ aLast a s) (c1 : (aCh a s).Nodup) (n01 : 1 ≤ n0) (n02 : n0 ≤ (aBase a s).toInt + 1) (hok : chOK (aFc a s) ((aLast a s).toInt + 1) n0 (aCh a s)) : WP (k_Disk_cutFrom F c s n) (fun c' => RC c' (aDCut a s n) v) := by
  obtain ⟨w1, w2, w3, w4⟩ := id wl
  have hn1' := Int32.lt_iff_toInt_lt.mp hn1
  have hn2' := Int32.le_iff_toInt_le.mp hn2
  refine dcutL (a := a) (v := v) hs ?_ F (aCh a s) [] c ?_ (List.append_nil _) ?_ (fun x hx => absurd hx List.not_mem_nil)
  · intro pre rest τ e1 hτ h4 h6
    rw [← e1] at hok c1
    obtain ⟨nd1, nd2, nd3⟩ := List.nodup_append.mp c1
    rw [rmAll_rev rest a nd2] at hτ
    obtain ⟨mI, k1, k2⟩ := chOK_split pre rest n0 hok
    have nmI : n.toInt ≤ mI := by
      cases hre : rest with
      | nil =>
        rw [hre] at k2
        have k2 : mI = (aLast a s).toInt + 1 := k2
        omega
      | cons x r =>
        have := Int32.le_iff_toInt_le.mp (h4 x (by rw [hre]; exact List.mem_cons_self))
        have k3 : ((aFc a s x).1 2).toInt = mI := by
          rw [hre] at k2
          exact k2.2.2.2.1
        omega
    have echb : aCh (aChS (aRemoveAll a s rest) s pre) s = pre := if_pos rfl
    have efc : ∀ g, g ∉ rest → aFc (aChS (aRemoveAll a s rest) s pre) s g = aFc a s g := fun g hg => (rmAll_fc rest a s g).2.1 (fun z => hg z.2)
    have hpre : ∀ x ∈ pre, (aFc a s x).1 2 < n := by
      intro x hx
      rcases List.eq_nil_or_concat pre with q | ⟨p, f, q⟩
      · rw [q] at hx
        exact absurd hx List.not_mem_nil
      · rw [List.concat_eq_append] at q
        have hf := h6 p f q
        rw [q] at hx k1
        rcases List.mem_append.mp hx with hx | hx
        · obtain ⟨mJ, j1, j2⟩ := chOK_split p [f] n0 k1
          have h7 := (chOK_mem p n0 j1 x hx).2.2.2.2.2
          have h8 : ((aFc a s f).1 2).toInt = mJ := j2.2.2.2.1
          rw [Int32.lt_iff_toInt_lt] at hf ⊢
          omega
        · rw [List.mem_singleton.mp hx]
          exact hf
    obtain ⟨f1, f2⟩ := cut_filter (a := a) (s := s) (n := n) (pre := pre) (rest := rest) hpre h4
    rw [e1] at f1 f2
    have hch := hτ.2.2.2.2.2.2.2.2.2.2.1 s hs
    rw [echb] at hch
    unfold k_Disk_cutFrom_b56 k_Disk_cutFrom_b100
    rw [hch.1]
    have hl12 := hch.2.1
    rcases List.eq_nil_or_concat pre with q | ⟨p, f, q⟩
    · have ed : aDCut a s n = aChS (aRemoveAll a s rest) s pre := by
        unfold aDCut
        rw [f1, f2, q]
        rfl
      rw [ed, q, if_pos (by decide)]
      rw [q] at hτ
      exact WP_some hτ
    · rw [List.concat_eq_append] at q
      have hf := h6 p f q
      have hmem : f ∉ rest := by
        intro z
        exact nd3 f (by rw [q]; simp) f z rfl
      have ed : aDCut a s n = aCut (aChS (aRemoveAll a s rest) s pre) s f (Int32.ofInt (aFrame (aFc a s f).2.1 (n - (aFc a s f).1 2).toNatClampNeg)) := by
        unfold aDCut
        rw [f1, f2, q, List.getLast?_concat]
        dsimp only
        rw [← q, efc f hmem]
      rw [ed]
      rw [q] at hch
      obtain ⟨z1, z2, z3, z4, z5⟩ := ch_last hch
      rw [q, show (p ++ [f]).length = p.length + 1 by simp, if_neg (fun z => by
        have := c0_le.mp z
        rw [Int32.le_iff_toInt_le, Int32.toInt_ofNat_of_lt (by omega), i_0] at this
        omega), i_pre (by omega), show p.length + 1 - 1 = p.length by omega]
      refine WP_eq (crd_n rfl (show p.length < 16 by omega) (by omega)) ?_
      rw [z5, cix0 z4]
      refine WP_b (WP_b ?_)
      have hpg := (hτ.2.2.2.2.2.2.2.2.2.1 s hs f z4).1
      rw [efc f hmem] at hpg
      rw [hpg.2.2.1]
      rw [q] at k1
      have hend := chOK_end p n0 k1
      have h9 := chOK_mem (p ++ [f]) n0 k1 f (by simp)
      have hf' := Int32.lt_iff_toInt_lt.mp hf
      have h320 : (aWhole (aFc a s f)).length ≤ 320 := hpg.2.2.2.2.2.2.2.2.2.2.1
      have ek : n - (aFc a s f).1 2 = Int32.ofNat (n.toInt - ((aFc a s f).1 2).toInt).toNat := by
        apply Int32.toInt_inj.mp
        rw [i_subI (by omega) (by omega), Int32.toInt_ofNat_of_lt (by omega)]
        omega
      have ec : (n - (aFc a s f).1 2).toNatClampNeg = (n.toInt - ((aFc a s f).1 2).toInt).toNat := by
        rw [ek, i_cl (by omega)]
      refine WP_eq (K_frame hpg ek (by omega) (by omega)) ?_
      rw [ec]
      rw [q] at hτ
      exact WP_call (K_cutTo hF hτ hs z4 ⟨by omega, by omega⟩) (fun c' h' => WP_some h')
  · have := (h.2.2.2.2.2.2.2.2.2.2.1 s hs).2.1
    omega
  · rw [List.reverse_nil]
    show RC c (aChS a s (aCh a s)) v
    rw [aChS_same]
    exact h
