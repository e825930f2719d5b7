/-! pages of a disk -/
theorem cpg_b : ∀ f, f < 16 → cpg f < 30 ∧ ckp f < 30 := by decide
theorem cpg_i : ∀ f, f < 16 → ∀ g, g < 16 → (cpg f = cpg g ↔ f = g) ∧ (ckp f = ckp g ↔ f = g) ∧ (cpg f = ckp g ↔ f = g ∧ (f = 2 ∨ f = 3)) := by decide +kernel
theorem pg_o {s f : Nat} (hf : f < 16) : (30 * s + cpg f) / 30 = s ∧ (30 * s + ckp f) / 30 = s := by
  obtain ⟨h1, h2⟩ := cpg_b f hf
  omega
theorem pg_t {s f : Nat} (hs : s < 7) (hf : f < 16) : 30 * s + cpg f < 210 ∧ 30 * s + ckp f < 210 := by
  obtain ⟨h1, h2⟩ := cpg_b f hf
  omega
theorem cix_n {cl f n : Nat} {j : Int32} (hj : j = Int32.ofNat n) (h : n < cln cl f) (hb : n < 2147483648) : cix cl f j = some n := by
  subst hj
  unfold cix
  rw [i_cl hb, if_neg (fun z => z.elim (i_nn hb) (by omega))]
theorem cix0 {f : Nat} (hf : f < 16) : cix 6 0 (Int32.ofNat f) = some f := cix_n rfl hf (by omega)
theorem cix1 {f : Nat} (hf : f < 16) : cix 6 1 (Int32.ofNat f) = some f := cix_n rfl hf (by omega)
def PD : List Nat := [352, 353, 354, 355, 356, 357, 358, 359, 360, 361, 195, 194]
theorem shOK_f {a a' : AA} {s : Nat} (h : shOK a s) (e47 : aS a' 47 s = aS a 47 s) (e67 : aS a' 67 s = aS a 67 s) (e4 : aSh a' s = aSh a s) (ef : ∀ f, f = 2 ∨ f = 3 → aFc a' s f = aFc a s f) : shOK a' s := by
  rcases h with ⟨h1, h2, h3⟩ | ⟨f, f1, f2, f3, f4, f5⟩
  · exact Or.inl ⟨e47.trans h1, e67.trans h2, e4.trans h3⟩
  · exact Or.inr ⟨f, f1, e47.trans f2, by rw [ef f f1]; exact f3, by rw [ef f f1, e4]; exact f4, by rw [e67, e4]; exact f5⟩
/-- a file (not a snapshot's) is another one now -/
theorem RC_pgc {c c' : CS} {a : AA} {v : CV} {s f : Nat} {F : AF} {x : Int32} (h : RC c a v) (hs : s < 7) (hf : f < 16) (h23 : f ≠ 2 ∧ f ≠ 3) (hs4 : f < 4 → F.2.1 = []) (hF : Ck PD s c c') (hT : (cT c).1 ≤ (cT c').1) (hr : KRm c' v) (hp : PG c' (30 * s + cpg f) F) (hk : PG c' (30 * s + ckp f) (aFk a s f)) (hsm : KSm c' s f F (aFk a s f))
    (ho : ∀ q g, q / 30 = s → q ≠ 30 * s + cpg f → q ≠ 30 * s + ckp f → g < 10 → Sm c c' 11 q g) (h3 : ∀ g, g < 16 → g ≠ f → cI c' 6 s 3 g = cI c 6 s 3 g) (hl : ∀ g, g < 16 → cI c' 6 s 2 g = if g = f then x else cI c 6 s 2 g) : RC c' (aI (aPut a s f F) 43 (16 * s + f) x) v := by
  have efc : ∀ t g, aFc (aI (aPut a s f F) 43 (16 * s + f) x) t g = if t = s ∧ g = f then F else aFc a t g := by
    intro t g
    show aU (aFc a) s (aU (aFc a s) f F) t g = _
    unfold aU
    by_cases q : t = s
    · rw [if_pos q]
      by_cases z : g = f
      · rw [if_pos z, if_pos ⟨q, z⟩]
      · rw [if_neg z, if_neg (fun y => z y.2), q]
    · rw [if_neg q, if_neg (fun y => q y.1)]
  have efk : aFk (aI (aPut a s f F) 43 (16 * s + f) x) = aFk a := rfl
  have hpg : ∀ t, t < 7 → KPg c' t (aFc (aI (aPut a s f F) 43 (16 * s + f) x) t) (aFk (aI (aPut a s f F) 43 (16 * s + f) x) t) := by
    intro t ht g hg
    by_cases q : t = s
    · subst q
      rw [efk]
      by_cases z : g = f
      · subst z
        rw [efc, if_pos ⟨rfl, rfl⟩]
        exact ⟨hp, hk, fun _ _ => hsm, fun y => by omega, fun y => ⟨hs4 y, ((h.2.2.2.2.2.2.2.2.2.1 t ht g hg).2.2.2.2 y).2⟩⟩
      · rw [efc, if_neg (fun y => z y.2)]
        obtain ⟨y1, y2, y3, y4, y5⟩ := h.2.2.2.2.2.2.2.2.2.1 t ht g hg
        obtain ⟨i1, i2, i3⟩ := cpg_i g hg f hf
        obtain ⟨j1, j2, j3⟩ := cpg_i f hf g hg
        have n1 : 30 * t + cpg g ≠ 30 * t + cpg f := fun y => z (i1.mp (by omega))
        have n2 : 30 * t + cpg g ≠ 30 * t + ckp f := fun y => z (i3.mp (by omega)).1
        have n3 : 30 * t + ckp g ≠ 30 * t + cpg f := fun y => z (j3.mp (by omega)).1.symm
        have n4 : 30 * t + ckp g ≠ 30 * t + ckp f := fun y => z (i2.mp (by omega))
        refine ⟨PG_fr (fun w hw => ho _ w (pg_o hg).1 n1 n2 hw) y1, PG_fr (fun w hw => ho _ w (pg_o hg).2 n3 n4 hw) y2, fun w1 w2 => ?_, fun w => ⟨(y4 w).1, fun w2 => KSn_fr (fun u hu => ho _ u (pg_o hg).1 n1 n2 hu) ((y4 w).2 w2)⟩, y5⟩
        obtain ⟨m, m1, m2⟩ := y3 w1 w2
        exact ⟨m, (h3 g hg z).trans m1, m2⟩
    · have := KPg_ne hF (by decide) q (h.2.2.2.2.2.2.2.2.2.1 t ht) g hg
      rw [efc, if_neg (fun y => q y.1), efk]
      exact this
  have hlw : ∀ t, t < 7 → KLw c' (aI (aPut a s f F) 43 (16 * s + f) x) t := by
    intro t ht g hg
    show _ = if 43 = 43 ∧ 16 * t + g = 16 * s + f then x else aS a 43 (16 * t + g)
    by_cases q : t = s
    · subst q
      rw [hl g hg]
      by_cases z : g = f
      · rw [if_pos z, if_pos ⟨rfl, by rw [z]⟩]
      · rw [if_neg z, if_neg (fun y => z (by omega))]
        exact h.2.2.2.2.2.2.2.1 t ht g hg
    · rw [if_neg (fun y => q (by omega))]
      exact KLw_ne hF (by decide) q (h.2.2.2.2.2.2.2.1 t ht) g hg
  have hlt : KLt c' (aI (aPut a s f F) 43 (16 * s + f) x) v.1.1 := KLt_s (a := aI (aPut a s f F) 43 (16 * s + f) x) (hF 14 0 15 (by decide) (Or.inl (by decide))).2.2.2 (hF 14 0 16 (by decide) (Or.inl (by decide))).2.2.2 (fun t _ => (hF 13 t 7 (by decide) (Or.inl (by decide))).2.2.2) hT (fun ad g _ _ hg => hF 8 ad g (by omega) (Or.inl ((by decide : ∀ g, g < 20 → 32 * 8 + g ∉ PD) g hg))) h.2.2.2.2.2.2.2.2.2.2.2.2.2.2.2.2.2.2.2.1
  have hsh : ∀ t, t < 7 → aS (aI (aPut a s f F) 43 (16 * s + f) x) 52 t = 1 → shOK (aI (aPut a s f F) 43 (16 * s + f) x) t := by
    intro t ht hu
    refine shOK_f (h.2.2.2.2.2.2.2.2.2.2.2.2.2.2.2.2.2.2.2.2.2.1 t ht (by rw [← hu]; exact (aS_If (by decide)).symm)) (aS_If (by decide)) (aS_If (by decide)) rfl (fun g hg => ?_)
    rw [efc, if_neg (fun y => by omega)]
  have e : ∀ g, g ≠ 43 → ∀ i, aS (aI (aPut a s f F) 43 (16 * s + f) x) g i = aS a g i := fun g hg i => aS_If hg
  refine ⟨KSc_al (KSc_fr hF (by decide) h.1) (fun G hG i => e G (fun z => by
      have := (by decide : ∀ G ∈ sT.map (fun x => x.1), G ≠ 43) G hG
      exact this z) i), fun t ht hu => ?_, fun t ht => ?_, fun t ht hr => ?_, fun t ht hu => ?_, ?_, ?_, hlw, fun t ht => KG_fr hF (by decide) (h.2.2.2.2.2.2.2.2.1 t ht), hpg, fun t ht => KCh_fr hF (by decide) (h.2.2.2.2.2.2.2.2.2.2.1 t ht), fun t ht => KMc_fr hF (by decide) (h.2.2.2.2.2.2.2.2.2.2.2.1 t ht), fun t ht => ?_, fun k hk => ?_, fun k hk => KDn_fr hF (by decide) (h.2.2.2.2.2.2.2.2.2.2.2.2.2.2.1 k hk), KAk_fr hF (by decide) h.2.2.2.2.2.2.2.2.2.2.2.2.2.2.2.1, KFc_fr hF (by decide) h.2.2.2.2.2.2.2.2.2.2.2.2.2.2.2.2.1, fun t ht => ?_, fun k hk => KIc_fr hF (by decide) (h.2.2.2.2.2.2.2.2.2.2.2.2.2.2.2.2.2.2.1 k hk), hlt, hr, hsh, nwOK_I (a := aPut a s f F) h.2.2.2.2.2.2.2.2.2.2.2.2.2.2.2.2.2.2.2.2.2.2 (by decide)⟩
  · rw [e 46 (by decide)]
    rw [e 52 (by decide)] at hu
    exact KFr_fr hF (by decide) (h.2.1 t ht hu)
  · rw [e 78 (by decide)]
    exact KHd_fr hF (by decide) (h.2.2.1 t ht)
  · rw [e 73 (by decide)] at hr
    have := KLd_fr hF (by decide) (h.2.2.2.1 t ht hr)
    unfold KLd at this ⊢
    simp only [e 82 (by decide), e 83 (by decide), e 86 (by decide), e 87 (by decide), e 88 (by decide), e 89 (by decide), e 90 (by decide), e 91 (by decide), e 92 (by decide), e 93 (by decide)]
    exact this
  · rw [e 52 (by decide)] at hu
    rw [e 151 (by decide)]
    exact KRq_fr hF (by decide) (h.2.2.2.2.1 t ht hu)
  · have := KBl_fr hF (by decide) h.2.2.2.2.2.1
    unfold KBl aBn aBt at this ⊢
    simp only [e 29 (by decide), e 30 (by decide), e 31 (by decide), e 32 (by decide)]
    exact this
  · have := KDa_fr hF (by decide) h.2.2.2.2.2.2.1
    unfold KDa at this ⊢
    simp only [e 23 (by decide), e 72 (by decide)]
    exact this
  · rw [e 69 (by decide), e 70 (by decide)]
    exact KPc_fr hF (by decide) (h.2.2.2.2.2.2.2.2.2.2.2.2.1 t ht)
  · rw [e 124 (by decide), e 137 (by decide), e 131 (by decide), e 130 (by decide)]
    exact KCl_fr hF (by decide) (h.2.2.2.2.2.2.2.2.2.2.2.2.2.1 k hk)
  · rw [e 145 (by decide)]
    exact KId_fr hF (by decide) (h.2.2.2.2.2.2.2.2.2.2.2.2.2.2.2.2.2.1 t ht)
theorem aWhole_0 {F : AF} {es : List AE} {M : AM} {w : Nat → Int32} (hw : (w 1).toInt < 24) (he : ∀ e ∈ es, eOK e) : aWhole ((w, es, M) : AF) = [] := by
  unfold aWhole
  cases es with
  | nil => rfl
  | cons e r =>
    have : aWholes (e :: r) ((w 1).toInt - 24) = 0 := by
      unfold aWholes
      have := (he e List.mem_cons_self).1
      unfold aEsz
      rw [if_neg (by omega)]
    show (e :: r).take (aWholes (e :: r) ((w 1).toInt - 24)) = []
    rw [this]
    rfl
/-- a page that is written or removed: its numbers; its entries are none then -/
theorem PG_new {c c' : CS} {q : Nat} {F : AF} {w : Nat → Int32} {M : AM} {es : List AE} (h : PG c q F) (hw : aWhole ((w, es, M) : AF) = []) (h0 : w 0 = 0 ∨ w 0 = 1) (he : ∀ e ∈ es, eOK e) (e0 : cI c' 11 q 0 0 = w 0) (e1 : cI c' 11 q 1 0 = w 1) (e2 : cI c' 11 q 2 0 = w 2) (e3 : cI c' 11 q 3 0 = w 3) (e4 : cI c' 11 q 4 0 = w 4) (e5 : cI c' 11 q 5 0 = 0) (hL : cL c' 11 q 6 = cL c 11 q 6 ∧ cL c' 11 q 7 = cL c 11 q 7) : PG c' q (w, es, M) := by
  obtain ⟨_, _, _, _, _, _, _, y8, y9, _, _, _⟩ := h
  refine ⟨e0, e1, e2, e3, e4, ?_, fun i hi => ?_, ?_, ?_, h0, ?_, he⟩
  · rw [e5, hw]
    rfl
  · rw [hw] at hi
    exact absurd hi (Nat.not_lt_zero _)
  · rw [hw]
    exact Nat.zero_le _
  · rw [hL.1, hL.2]
    exact y9
  · rw [hw]
    exact Nat.zero_le _
theorem K_remove {c : CS} {a : AA} {v : CV} {s f : Nat} (h : RC c a v) (hs : s < 7) (hf : f < 16) (h23 : f ≠ 2 ∧ f ≠ 3) : WP (k_Disk_remove c s (Int32.ofNat f)) (fun c' => RC c' (aRemove a s f) v) := by
  unfold k_Disk_remove k_Disk_remove_b0 k_Page_remove k_Page_remove_b0
  rw [cix0 hf]
  refine WP_b ?_
  unfold cputZ
  rw [if_pos (Or.inl rfl)]
  refine WP_call (Q1 := fun c1 => c1 = csI (csI (csI c 11 (30 * s + cpg f) 0 0 0) 11 (30 * s + cpg f) 1 0 0) 11 (30 * s + cpg f) 5 0 0) (WP_b (WP_b (WP_b (WP_some rfl)))) (fun c1 hc1 => ?_)
  subst hc1
  refine WP_eq (cwr_n rfl (show f < 16 from hf) (by omega)) (WP_eq (cwr_n rfl (show f < 16 from hf) (by omega)) (WP_some ?_))
  obtain ⟨y1, y2, y3, y4⟩ := h.2.2.2.2.2.2.2.2.2.1 s hs f hf
  have ow : cOwn 11 (30 * s + cpg f) = s := (if_pos rfl).trans (pg_o hf).1
  have hF0 : Ck [352, 353, 357, 194, 195] s c (csI (csI (csI (csI (csI c 11 (30 * s + cpg f) 0 0 0) 11 (30 * s + cpg f) 1 0 0) 11 (30 * s + cpg f) 5 0 0) 6 s 2 f 0) 6 s 3 f 0) :=
    Ck_w (Ck_t (Ck_t (Ck_t (Ck_t (Ck_I (Or.inr ow)) (Ck_I (Or.inr ow))) (Ck_I (Or.inr ow))) (Ck_I (Or.inr rfl))) (Ck_I (Or.inr rfl))) (by decide)
  have hF := Ck_w (D' := PD) hF0 (by decide)
  have hne : ckp f ≠ cpg f := fun z => by
    have := ((cpg_i f hf f hf).2.2.mp z.symm).2
    omega
  have he : ∀ e ∈ (aFc a s f).2.1, eOK e := y1.2.2.2.2.2.2.2.2.2.2.2
  have hw : aWhole ((aU (aU (aFc a s f).1 0 0) 1 0, (aFc a s f).2) : AF) = [] := aWhole_0 (F := aFc a s f) (show (0 : Int32).toInt < 24 by decide) he
  refine RC_pgc h hs hf h23 (fun y => ((h.2.2.2.2.2.2.2.2.2.1 s hs f hf).2.2.2.2 y).1) hF (Nat.le_refl _) (KRm_fr hF0 rfl (by decide) h.2.2.2.2.2.2.2.2.2.2.2.2.2.2.2.2.2.2.2.2.1) ?_ ?_ ?_ ?_ ?_ ?_
  · refine PG_new y1 hw (Or.inl rfl) he ?_ ?_ ?_ ?_ ?_ ?_ ⟨rfl, rfl⟩
    · rw [csI_cl (by decide), csI_cl (by decide), csI_f (by decide), csI_f (by decide), csI_e]
      rfl
    · rw [csI_cl (by decide), csI_cl (by decide), csI_f (by decide), csI_e]
      rfl
    · rw [csI_cl (by decide), csI_cl (by decide), csI_f (by decide), csI_f (by decide), csI_f (by decide)]
      exact y1.2.2.1
    · rw [csI_cl (by decide), csI_cl (by decide), csI_f (by decide), csI_f (by decide), csI_f (by decide)]
      exact y1.2.2.2.1
    · rw [csI_cl (by decide), csI_cl (by decide), csI_f (by decide), csI_f (by decide), csI_f (by decide)]
      exact y1.2.2.2.2.1
    · rw [csI_cl (by decide), csI_cl (by decide), csI_e]
  · refine PG_fr (c := c) (fun g hg => ⟨fun j => ?_, fun _ => rfl, rfl, rfl⟩) y2
    rw [csI_cl (by decide), csI_cl (by decide), csI_ne (by omega), csI_ne (by omega), csI_ne (by omega)]
  · exact ⟨0, csI_e, Nat.zero_le _, Nat.zero_le _, rfl⟩
  · intro q g hq n1 n2 hg
    refine ⟨fun j => ?_, fun _ => rfl, rfl, rfl⟩
    rw [csI_cl (by decide), csI_cl (by decide), csI_ne (by omega), csI_ne (by omega), csI_ne (by omega)]
  · intro g hg hgf
    rw [csI_j hgf, csI_f (by decide), csI_cl (by decide), csI_cl (by decide), csI_cl (by decide)]
  · intro g hg
    rw [csI_f (by decide)]
    by_cases z : g = f
    · rw [if_pos z, z, csI_e]
    · rw [if_neg z, csI_j z, csI_cl (by decide), csI_cl (by decide), csI_cl (by decide)]
