/-! comps that stay when only some numbers change -/
section KEEP
variable {D W : List Nat} {o : Nat} {c c' : CS} {a a' : AA}
theorem KSc_k (hF : Ck D o c c') (q : dj (sT.map (fun x => 32 * x.2.1 + x.2.2)) D = true) (e : ∀ f, f ∉ W → ∀ i, aS a' f i = aS a f i) (qW : dj (sT.map (fun x => x.1)) W = true) (y : KSc c a) : KSc c' a' := KSc_al (KSc_fr hF q y) (fun F hF' i => e F (dj_m qW hF') i)
theorem fr_k (hF : Ck D o c c') (q : dj [199] D = true) (e : ∀ f, f ∉ W → ∀ i, aS a' f i = aS a f i) (qW : dj [52, 46] W = true) (y : ∀ s, s < 7 → aS a 52 s = 1 → cI c 6 s 7 0 = aS a 46 s) : ∀ s, s < 7 → aS a' 52 s = 1 → cI c' 6 s 7 0 = aS a' 46 s := by
  intro s hs hu
  rw [e 52 (dj_m qW (by decide))] at hu
  rw [e 46 (dj_m qW (by decide))]
  exact KFr_fr hF q (y s hs hu)
theorem hd_k (hF : Ck D o c c') (q : dj [430] D = true) (e : ∀ f, f ∉ W → ∀ i, aS a' f i = aS a f i) (qW : dj [78] W = true) (y : ∀ s, s < 7 → KHd c s (aS a 78 s)) : ∀ s, s < 7 → KHd c' s (aS a' 78 s) := by
  intro s hs
  rw [e 78 (dj_m qW (by decide))]
  exact KHd_fr hF q (y s hs)
theorem KLd_al {s : Nat} (e : ∀ f, f ∉ W → ∀ i, aS a' f i = aS a f i) (qW : dj [82, 83, 86, 87, 88, 89, 90, 91, 92, 93] W = true) (y : KLd c a s) : KLd c a' s := by
  unfold KLd at y ⊢
  simp only [e 82 (dj_m qW (by decide)), e 83 (dj_m qW (by decide)), e 86 (dj_m qW (by decide)), e 87 (dj_m qW (by decide)), e 88 (dj_m qW (by decide)), e 89 (dj_m qW (by decide)), e 90 (dj_m qW (by decide)), e 91 (dj_m qW (by decide)), e 92 (dj_m qW (by decide)), e 93 (dj_m qW (by decide))]
  exact y
theorem ld_k (hF : Ck D o c c') (q : dj [224, 225, 226, 227, 228, 229, 230, 231, 232, 233] D = true) (e : ∀ f, f ∉ W → ∀ i, aS a' f i = aS a f i) (qW : dj [73, 82, 83, 86, 87, 88, 89, 90, 91, 92, 93] W = true) (y : ∀ s, s < 7 → aS a 73 s = 3 → KLd c a s) : ∀ s, s < 7 → aS a' 73 s = 3 → KLd c' a' s := by
  intro s hs hr
  rw [e 73 (dj_m qW (by decide))] at hr
  exact KLd_al e (dj_sub qW (by decide)) (KLd_fr hF q (y s hs hr))
theorem rq_k (hF : Ck D o c c') (q : dj [384, 385, 386, 387, 388, 389, 390, 392] D = true) (e : ∀ f, f ∉ W → ∀ i, aS a' f i = aS a f i) (qW : dj [52, 151] W = true) (er : aRq a' = aRq a) (y : ∀ s, s < 7 → aS a 52 s = 1 → KRq c s (aS a 151 s) (aRq a s)) : ∀ s, s < 7 → aS a' 52 s = 1 → KRq c' s (aS a' 151 s) (aRq a' s) := by
  intro s hs hu
  rw [e 52 (dj_m qW (by decide))] at hu
  rw [e 151 (dj_m qW (by decide)), er]
  exact KRq_fr hF q (y s hs hu)
theorem bl_k (hF : Ck D o c c') (q : dj [458, 459] D = true) (e : ∀ f, f ∉ W → ∀ i, aS a' f i = aS a f i) (qW : dj [29, 30, 31, 32] W = true) (y : KBl c a) : KBl c' a' := by
  have := KBl_fr hF q y
  unfold KBl aBn aBt at this ⊢
  simp only [e 29 (dj_m qW (by decide)), e 30 (dj_m qW (by decide)), e 31 (dj_m qW (by decide)), e 32 (dj_m qW (by decide))]
  exact this
theorem da_k (hF : Ck D o c c') (q : dj [460, 461, 462, 457] D = true) (e : ∀ f, f ∉ W → ∀ i, aS a' f i = aS a f i) (qW : dj [23, 72] W = true) (er : a'.1.2 = a.1.2) (y : KDa c a) : KDa c' a' := by
  have := KDa_fr hF q y
  unfold KDa at this ⊢
  simp only [e 23 (dj_m qW (by decide)), e 72 (dj_m qW (by decide)), er]
  exact this
theorem lw_k (hF : Ck D o c c') (q : dj [194] D = true) (e : ∀ f, f ∉ W → ∀ i, aS a' f i = aS a f i) (qW : dj [43] W = true) (y : ∀ s, s < 7 → KLw c a s) : ∀ s, s < 7 → KLw c' a' s := by
  intro s hs
  have := KLw_fr hF q (y s hs)
  unfold KLw at this ⊢
  simp only [e 43 (dj_m qW (by decide))]
  exact this
theorem pc_k (hF : Ck D o c c') (q : dj [433, 434] D = true) (e : ∀ f, f ∉ W → ∀ i, aS a' f i = aS a f i) (qW : dj [69, 70] W = true) (er : aPm a' = aPm a) (y : ∀ s, s < 7 → KPc c s (aS a 69 s) (aS a 70 s) (aPm a s)) : ∀ s, s < 7 → KPc c' s (aS a' 69 s) (aS a' 70 s) (aPm a' s) := by
  intro s hs
  rw [e 69 (dj_m qW (by decide)), e 70 (dj_m qW (by decide)), er]
  exact KPc_fr hF q (y s hs)
theorem cl_k (hF : Ck D o c c') (q : dj [169, 170, 171] D = true) (e : ∀ f, f ∉ W → ∀ i, aS a' f i = aS a f i) (qW : dj [124, 137, 131, 130] W = true) (y : ∀ k, k < 8 → KCl c k (aS a 124 k) (aS a 137 k) (aS a 131 k) (aS a 130 k)) : ∀ k, k < 8 → KCl c' k (aS a' 124 k) (aS a' 137 k) (aS a' 131 k) (aS a' 130 k) := by
  intro k hk
  rw [e 124 (dj_m qW (by decide)), e 137 (dj_m qW (by decide)), e 131 (dj_m qW (by decide)), e 130 (dj_m qW (by decide))]
  exact KCl_fr hF q (y k hk)
theorem id_k {d : Nat → Int32} (hF : Ck D o c c') (q : dj [416, 288, 435] D = true) (e : ∀ f, f ∉ W → ∀ i, aS a' f i = aS a f i) (qW : dj [145] W = true) (y : ∀ s, s < 7 → KId c s (aS a 145 0) (d s)) : ∀ s, s < 7 → KId c' s (aS a' 145 0) (d s) := by
  intro s hs
  rw [e 145 (dj_m qW (by decide))]
  exact KId_fr hF q (y s hs)
theorem sh_k (e : ∀ f, f ∉ W → ∀ i, aS a' f i = aS a f i) (qW : dj [52, 47, 67] W = true) (e1 : aSh a' = aSh a) (e2 : aFc a' = aFc a) (y : ∀ s, s < 7 → aS a 52 s = 1 → shOK a s) : ∀ s, s < 7 → aS a' 52 s = 1 → shOK a' s := by
  intro s hs hu
  rw [e 52 (dj_m qW (by decide))] at hu
  exact shOK_f (y s hs hu) (e 47 (dj_m qW (by decide)) s) (e 67 (dj_m qW (by decide)) s) (by rw [e1]) (fun f _ => by rw [e2])
theorem nw_k (e : ∀ f, f ∉ W → ∀ i, aS a' f i = aS a f i) (qW : dj [1, 72, 71, 27] W = true) (y : nwOK a) : nwOK a' := by
  unfold nwOK aNow at y ⊢
  simp only [e 1 (dj_m qW (by decide)), e 72 (dj_m qW (by decide)), e 71 (dj_m qW (by decide)), e 27 (dj_m qW (by decide))]
  exact y
end KEEP
theorem eI1 {a : AA} {f i : Nat} {x : Int32} : ∀ g, g ∉ [f] → ∀ j, aS (aI a f i x) g j = aS a g j := fun g hg j => aS_If (by simpa using hg)
/-- a slot was written since the last sync -/
theorem RC_46 {c : CS} {a : AA} {v : CV} {s : Nat} {x : Int32} (h : RC c a v) : RC (csI c 6 s 7 0 x) (aI a 46 s x) v := by
  have hF : Ck [32 * 6 + 7] s c (csI c 6 s 7 0 x) := Ck_I (Or.inr rfl)
  have e := eI1 (a := a) (f := 46) (i := s) (x := x)
  have hf : ∀ t, t < 7 → aS (aI a 46 s x) 52 t = 1 → cI (csI c 6 s 7 0 x) 6 t 7 0 = aS (aI a 46 s x) 46 t := by
    intro t ht hu
    rw [e 52 (by decide)] at hu
    by_cases q : t = s
    · rw [q, csI_e]
      exact (if_pos ⟨rfl, rfl⟩).symm
    · rw [csI_ne (fun z => q z.2.1), h.2.1 t ht hu]
      exact (if_neg (fun z => q z.2)).symm
  exact ⟨KSc_k hF (by decide) e (by decide) h.1, hf, hd_k hF (by decide) e (by decide) h.2.2.1, ld_k hF (by decide) e (by decide) h.2.2.2.1, rq_k hF (by decide) e (by decide) rfl h.2.2.2.2.1, bl_k hF (by decide) e (by decide) h.2.2.2.2.2.1, da_k hF (by decide) e (by decide) rfl h.2.2.2.2.2.2.1, lw_k hF (by decide) e (by decide) h.2.2.2.2.2.2.2.1, fun s hs => KG_fr hF (by decide) (h.2.2.2.2.2.2.2.2.1 s hs), fun s hs => KPg_fr hF (by decide) (h.2.2.2.2.2.2.2.2.2.1 s hs), fun s hs => KCh_fr hF (by decide) (h.2.2.2.2.2.2.2.2.2.2.1 s hs), fun s hs => KMc_fr hF (by decide) (h.2.2.2.2.2.2.2.2.2.2.2.1 s hs), pc_k hF (by decide) e (by decide) rfl h.2.2.2.2.2.2.2.2.2.2.2.2.1, cl_k hF (by decide) e (by decide) h.2.2.2.2.2.2.2.2.2.2.2.2.2.1, fun k hk => KDn_fr hF (by decide) (h.2.2.2.2.2.2.2.2.2.2.2.2.2.2.1 k hk), KAk_fr hF (by decide) h.2.2.2.2.2.2.2.2.2.2.2.2.2.2.2.1, KFc_fr hF (by decide) h.2.2.2.2.2.2.2.2.2.2.2.2.2.2.2.2.1, id_k hF (by decide) e (by decide) h.2.2.2.2.2.2.2.2.2.2.2.2.2.2.2.2.2.1, fun k hk => KIc_fr hF (by decide) (h.2.2.2.2.2.2.2.2.2.2.2.2.2.2.2.2.2.2.1 k hk), KLt_fr hF rfl (by decide) h.2.2.2.2.2.2.2.2.2.2.2.2.2.2.2.2.2.2.2.1, KRm_fr hF rfl (by decide) h.2.2.2.2.2.2.2.2.2.2.2.2.2.2.2.2.2.2.2.2.1, sh_k e (by decide) rfl rfl h.2.2.2.2.2.2.2.2.2.2.2.2.2.2.2.2.2.2.2.2.2.1, nw_k e (by decide) h.2.2.2.2.2.2.2.2.2.2.2.2.2.2.2.2.2.2.2.2.2.2⟩
theorem slot_f {x : Int32} (h : x = 0 ∨ x = 1) : ∃ f, f < 2 ∧ x = Int32.ofNat f ∧ x.toNatClampNeg = f := by
  rcases h with rfl | rfl
  · exact ⟨0, by omega, rfl, rfl⟩
  · exact ⟨1, by omega, rfl, rfl⟩
/-- TERM and VOTED are laid -/
theorem K_slot24 {c : CS} {a : AA} {v : CV} {s f : Nat} {w t y : Int32} (h : RC c a v) (hs : s < 7) (hf : f < 2) (h45 : aS a 45 s = Int32.ofNat f) (hw : aS a 150 s + 1 = w) : WP (k_Disk_writeSlot_b24 c s t y) (fun c' => RC c' (aI (aPut (aAdd (aI a 46 s 1) 150 s 1) s f (aF 1 32 w t y [] ([], []))) 43 (16 * s + f) 0) v) := by
  subst hw
  unfold k_Disk_writeSlot_b24 cputZ
  rw [if_pos (Or.inr rfl)]
  have h1 := RC_46 (s := s) (x := 1) h
  refine WP_b (WP_b ?_)
  rw [K_r h1 (F := 150) (cl := 6) (f := 8) (by decide) hs]
  have h2 := RC_I (x := aS (aI a 46 s 1) 150 s + 1) h1 (F := 150) (cl := 6) (f := 8) (i := s) (by decide) (by decide)
  have e150 : aS (aI a 46 s 1) 150 s = aS a 150 s := aS_If (by decide)
  have ea : aI (aI a 46 s 1) 150 s (aS (aI a 46 s 1) 150 s + 1) = aAdd (aI a 46 s 1) 150 s 1 := rfl
  rw [ea] at h2
  have e45 : aS (aAdd (aI a 46 s 1) 150 s 1) 45 s = Int32.ofNat f := (aS_If (by decide)).trans ((aS_If (by decide)).trans h45)
  have e8 : cI (csI (csI c 6 s 7 0 1) 6 s 8 0 (aS (aI a 46 s 1) 150 s + 1)) 6 s 8 0 = aS a 150 s + 1 := by rw [csI_e, e150]
  generalize csI (csI c 6 s 7 0 1) 6 s 8 0 (aS (aI a 46 s 1) 150 s + 1) = c1 at h2 e8
  rw [K_r h2 (F := 45) (cl := 6) (f := 6) (by decide) hs, e45]
  have f16 : f < 16 := by omega
  refine WP_eq (cwr_n rfl (show f < 16 from f16) (by omega)) ?_
  rw [csI_f (show (6 : Nat) ≠ 2 by decide), K_r h2 (F := 45) (cl := 6) (f := 6) (by decide) hs, e45, cix0 f16]
  refine WP_b ?_
  rw [csI_f (show (8 : Nat) ≠ 2 by decide), e8]
  obtain ⟨y1, y2, y3, y4, y5⟩ := h2.2.2.2.2.2.2.2.2.2.1 s hs f f16
  have ow : cOwn 11 (30 * s + cpg f) = s := (if_pos rfl).trans (pg_o f16).1
  have hgk : ckp f ≠ cpg f := fun z => by
    have := ((cpg_i f f16 f f16).2.2.mp z.symm).2
    omega
  have y1' : PG (csI c1 6 s 2 f 0) (30 * s + cpg f) (aFc (aAdd (aI a 46 s 1) 150 s 1) s f) := PG_fr (c := c1) (fun g _ => ⟨fun j => csI_cl (by decide), fun _ => rfl, rfl, rfl⟩) y1
  refine WP_call (K_pw (hz := 32) (x := aS a 150 s + 1) (y := t) (z := y) ([], []) y1') (fun c2 hc2 => WP_some ?_)
  obtain ⟨p1, p2, _⟩ := hc2
  have hF0 : Ck [352, 353, 354, 355, 356, 357, 361, 194] s c1 c2 :=
    Ck_w (Ck_t (Ck_I (c := c1) (cl := 6) (i := s) (f := 2) (Or.inr rfl)) (P11_k (D := [352, 353, 354, 355, 356, 357, 361]) p1 ow (by decide))) (by decide)
  have eT : cT c2 = cT c1 := p1.2.1
  have e6 : ∀ g j, g ≠ 2 → cI c2 6 s g j = cI c1 6 s g j := fun g j hg => ((p1.1 6 s g (fun w => by omega)).1 j).trans (csI_f hg)
  refine RC_pgc h2 hs f16 ⟨by omega, by omega⟩ (fun _ => rfl) (Ck_w hF0 (by decide)) (by rw [eT]; exact Nat.le_refl _) (KRm_fr hF0 eT (by decide) h2.2.2.2.2.2.2.2.2.2.2.2.2.2.2.2.2.2.2.2.2.1) p2 ?_ ?_ ?_ ?_ ?_
  · exact PG_fr (c := c1) (fun g _ => Sm_t (c' := csI c1 6 s 2 f 0) ⟨fun j => csI_cl (by decide), fun _ => rfl, rfl, rfl⟩ (p1.1 11 (30 * s + ckp f) g (fun w => by omega))) y2
  · obtain ⟨m, m1, m2, m3, m4⟩ := y3 (by omega) (by omega)
    have m0 : m = 0 := by
      have e := (y5 (by omega)).1
      unfold aWhole at m2
      rw [e] at m2
      simpa using m2
    subst m0
    exact ⟨0, (e6 3 f (by decide)).trans m1, Nat.zero_le _, Nat.zero_le _, rfl⟩
  · intro q g hq n1 n2 hg
    exact Sm_t (c' := csI c1 6 s 2 f 0) ⟨fun j => csI_cl (by decide), fun _ => rfl, rfl, rfl⟩ (p1.1 11 q g (fun w => n1 w.2.1))
  · intro g hg hgf
    exact e6 3 g (by decide)
  · intro g hg
    rw [(p1.1 6 s 2 (fun w => by omega)).1 g]
    by_cases z : g = f
    · rw [if_pos z, z, csI_e]
    · rw [if_neg z, csI_j z]
theorem aI_rot {b : AA} {p q r t i j k l : Nat} {x y z w : Int32} (h1 : q ≠ r) (h2 : p ≠ r) (h3 : q ≠ t) (h4 : p ≠ t) : aI (aI (aI (aI b p i x) q j y) r k z) t l w = aI (aI (aI (aI b r k z) t l w) p i x) q j y := by
  rw [aI_comm (a := aI b p i x) (f := q) (g := r) (fun e => h1 e.1), aI_comm (a := b) (f := p) (g := r) (fun e => h2 e.1), aI_comm (a := aI (aI b r k z) p i x) (f := q) (g := t) (fun e => h3 e.1), aI_comm (a := aI b r k z) (f := p) (g := t) (fun e => h4 e.1)]
theorem laySlot_e {a : AA} {s f : Nat} {x : Int32} (hx : x = Int32.ofNat f) (hf : f < 2) (hx2 : x = (if aS a 46 s = 0 then (if aS a 45 s = 1 then 0 else 1) else aS a 45 s)) : aLaySlot a s = aI (aI (aI (aPut (aAdd a 150 s 1) s f (aF 1 32 (aS (aAdd a 150 s 1) 150 s) (aS a 53 s) (aS a 54 s) [] ([], []))) 43 (16 * s + f) 0) 45 s x) 46 s 1 := by
  have e : x.toNatClampNeg = f := i_clx hx (by omega)
  unfold aLaySlot
  dsimp only
  rw [← hx2, e]
theorem laySlot_c {a : AA} {s f : Nat} {x w : Int32} {F : AF} : aI (aPut (aI (aI (aI a 45 s x) 46 s 1) 150 s w) s f F) 43 (16 * s + f) 0 = aI (aI (aI (aPut (aI a 150 s w) s f F) 43 (16 * s + f) 0) 45 s x) 46 s 1 := by
  rw [aPut_I, aPut_I, aPut_I, aPut_I]
  exact aI_rot (by decide) (by decide) (by decide) (by decide)
theorem laySlot_f {a : AA} {s f : Nat} {x : Int32} (hx : x = Int32.ofNat f) (hf : f < 2) (hx2 : x = (if aS a 46 s = 0 then (if aS a 45 s = 1 then 0 else 1) else aS a 45 s)) : aI (aPut (aAdd (aI (aI a 45 s x) 46 s 1) 150 s 1) s f (aF 1 32 (aS a 150 s + 1) (aS a 53 s) (aS a 54 s) [] ([], []))) 43 (16 * s + f) 0 = aLaySlot a s := by
  rw [laySlot_e hx hf hx2]
  have e150 : aS (aI (aI a 45 s x) 46 s 1) 150 s = aS a 150 s := (aS_If (by decide)).trans (aS_If (by decide))
  have e4 : aS (aAdd a 150 s 1) 150 s = aS a 150 s + 1 := if_pos ⟨rfl, rfl⟩
  rw [e4]
  unfold aAdd
  rw [e150]
  exact laySlot_c
/-- TERM and VOTED are laid: the slot that is due -/
theorem K_laySlot {c : CS} {a : AA} {v : CV} {s : Nat} (h : RC c a v) (hs : s < 7) (hup : aS a 52 s = 1) (hl : aLoc a) : WP (k_Disk_writeSlot c s (aS a 53 s) (aS a 54 s)) (fun c' => RC c' (aLaySlot a s) v) := by
  have h4 := hl.2.2.2.2 s hs
  unfold k_Disk_writeSlot k_Disk_writeSlot_b0 k_Disk_writeSlot_b21
  rw [h.2.1 s hs hup, K_r h (F := 45) (cl := 6) (f := 6) (by decide) hs]
  refine WP_if c0_ne (fun q => ?_) (fun q => ?_)
  · obtain ⟨f, f1, f2, f3⟩ := slot_f (x := aS a 45 s) (h4.2.resolve_left q)
    have e := laySlot_f f2 f1 (if_neg q).symm
    have es : aI a 45 s (aS a 45 s) = a := aI_same rfl
    rw [es] at e
    rw [← e]
    exact K_slot24 h hs f1 f2 rfl
  · have q' := Classical.not_not.mp q
    have go : ∀ f, f < 2 → ∀ x : Int32, x = Int32.ofNat f → x = (if aS a 45 s = 1 then 0 else 1) → WP ((some (csI c 6 s 6 0 x)).bind fun σ12 => k_Disk_writeSlot_b24 σ12 s (aS a 53 s) (aS a 54 s)) (fun c' => RC c' (aLaySlot a s) v) := by
      intro f hf x hx hx2
      have e := laySlot_f (a := a) (s := s) hx hf (by rw [if_pos q']; exact hx2)
      rw [← e]
      have h1 := RC_I (x := x) h (F := 45) (cl := 6) (f := 6) (i := s) (by decide) (by decide)
      have e45 : aS (aI a 45 s x) 45 s = Int32.ofNat f := by
        rw [← hx]
        exact if_pos ⟨rfl, rfl⟩
      have e1 : aS (aI a 45 s x) 150 s + 1 = aS a 150 s + 1 := by rw [show aS (aI a 45 s x) 150 s = aS a 150 s from aS_If (by decide)]
      exact WP_b (K_slot24 h1 hs hf e45 e1)
    refine WP_if c2_ne (fun q2 => ?_) (fun q2 => ?_)
    · exact go 1 (by omega) 1 rfl (if_neg q2).symm
    · exact go 0 (by omega) 0 rfl (if_pos (Classical.not_not.mp q2)).symm
theorem mdOK_s {a b : AA} {k : Nat} (h : mdOK a k) (e : aS b 2 0 = aS a 2 0) : mdOK b k := by
  obtain ⟨m, m1, m2⟩ := h
  exact ⟨m, e.trans m1, m2⟩
theorem aLoc_al {a b : AA} (h : aLoc a) (e27 : ∀ i, aS b 27 i = aS a 27 i) (e43 : ∀ i, aS b 43 i = aS a 43 i) (e150 : ∀ i, aS b 150 i = aS a 150 i) (e45 : ∀ i, aS b 45 i = aS a 45 i) (e46 : ∀ i, aS b 46 i = aS a 46 i) (ef : aFc b = aFc a) : aLoc b := by
  unfold aLoc at h ⊢
  simp only [e27, e43, e150, e45, e46, ef]
  exact h
theorem K_saveTerm {c : CS} {a : AA} {v : CV} {s : Nat} {x y : Int32} (h : RC c a v) (hs : s < 7) (hup : aS a 52 s = 1) (hl : aLoc a) (hm : mdOK a 0) : WP (k_Server_saveTerm c s x y) (fun c' => RC c' (A_writeSlot (aI (aI a 53 s x) 54 s y) s) v) := by
  unfold k_Server_saveTerm k_Server_saveTerm_b0 A_writeSlot
  have h1 := RC_I (x := x) h (F := 53) (cl := 13) (f := 10) (i := s) (by decide) (by decide)
  have h2 := RC_I (x := y) h1 (F := 54) (cl := 13) (f := 11) (i := s) (by decide) (by decide)
  refine WP_b (WP_b ?_)
  rw [K_r h2 (F := 53) (cl := 13) (f := 10) (by decide) hs, K_r h2 (F := 54) (cl := 13) (f := 11) (by decide) hs]
  have e : ∀ f, f ≠ 53 → f ≠ 54 → ∀ i, aS (aI (aI a 53 s x) 54 s y) f i = aS a f i := fun f n1 n2 i => (aS_If n2).trans (aS_If n1)
  refine WP_call (K_laySlot h2 hs ((e 52 (by decide) (by decide) s).trans hup) (aLoc_al hl (e 27 (by decide) (by decide)) (e 43 (by decide) (by decide)) (e 150 (by decide) (by decide)) (e 45 (by decide) (by decide)) (e 46 (by decide) (by decide)) rfl)) (fun c1 h3 => ?_)
  refine WP_call (K_soil h3 hs (mdOK_s hm ?_)) (fun c' h' => WP_some h')
  exact ((AFr_laySlot (a := aI (aI a 53 s x) 54 s y) (s := s)).1 2 (by decide) 0).trans (e 2 (by decide) (by decide) 0)
