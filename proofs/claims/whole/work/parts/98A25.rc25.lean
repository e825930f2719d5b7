/-! a snapshot is written -/
theorem gA_8 {c c' : CS} {q L n : Nat} {w : Nat → Nat} (hq : q < 210) (e8 : cL c 11 q 8 = L) (e8' : cL c' 11 q 8 = n) (ho : ∀ cl i f, ¬ (cl = 11 ∧ i = q ∧ f = 8) → cL c' cl i f = cL c cl i f) : gA w c' + w 1 * L = gA w c + w 1 * n := by
  unfold gA
  have h := sumN_upd (f := fun i => w 0 * cL c' 11 i 6 + w 0 * cL c' 11 i 7 + w 1 * cL c' 11 i 8) (g := fun i => w 0 * cL c 11 i 6 + w 0 * cL c 11 i 7 + w 1 * cL c 11 i 8) 210 hq (fun j _ hne => by
    rw [ho 11 j 6 (fun z => hne z.2.1), ho 11 j 7 (fun z => hne z.2.1), ho 11 j 8 (fun z => hne z.2.1)])
  simp only [e8', e8, ho 11 q 6 (fun z => by omega), ho 11 q 7 (fun z => by omega)] at h
  rw [sumN_eq (f := fun s => w 1 * cL c' 10 s 14 + w 2 * cL c' 13 s 18 + w 3 * cL c' 13 s 7) (g := fun s => w 1 * cL c 10 s 14 + w 2 * cL c 13 s 18 + w 3 * cL c 13 s 7) 7 (fun s _ => by rw [ho 10 s 14 (fun z => by omega), ho 13 s 18 (fun z => by omega), ho 13 s 7 (fun z => by omega)]), ho 4 0 2 (fun z => by omega), ho 4 0 3 (fun z => by omega), ho 14 0 15 (fun z => by omega), ho 14 0 16 (fun z => by omega)]
  omega
theorem cgrow_n {c : CS} {cl i f n : Nat} (h : n ≤ 1000000) : cgrow c cl i f (Int32.ofNat n) = some (csG c cl i f n (fun _ => 0)) := by
  unfold cgrow
  rw [i_cl (by omega), if_neg (fun z => z.elim (i_nn (by omega)) (fun y => by omega))]
theorem K_roomB {c : CS} {q L : Nat} (hq : q < 210) (hq5 : q % 30 = 4 ∨ q % 30 = 5) (h8 : 8 ≤ L) (hL : L ≤ 13980) : WP (k_Page_makeRoomForBytes c q (Int32.ofNat L)) (fun c' => (∀ v, KRm c v → KRm c' v) ∧ (∀ cl i f, ¬ (cl = 11 ∧ i = q ∧ f = 8) → Sm c c' cl i f) ∧ (cT c).1 ≤ (cT c').1 ∧ (L ≤ cL c' 11 q 8 ∨ 21000 < cL c 11 q 8)) := by
  unfold k_Page_makeRoomForBytes k_Page_makeRoomForBytes_b0 k_Page_makeRoomForBytes_b20
  rw [cal_g.2.2]
  by_cases big : 21000 < cL c 11 q 8
  · by_cases z : xc2 .ge (Int32.ofNat (cL c 11 q 8)) (Int32.ofNat L) = true
    · rw [if_pos z]
      exact WP_some ⟨fun _ h => h, fun _ _ _ _ => Sm_r, Nat.le_refl _, Or.inr big⟩
    · rw [if_neg z, if_neg (by decide), show (2 : Int32) = Int32.ofNat 2 from rfl, i_div (by omega) (by omega) (by omega), show Int32.ofNat L + Int32.ofNat (L / 2) = Int32.ofNat (L + L / 2) from (Int32.ofNat_add L (L / 2)).symm, cgrow_n (by omega)]
      refine WP_b (WP_some ⟨fun v h => ?_, fun cl i f w => csG_o w, Nat.le_succ _, Or.inr big⟩)
      have := (h.2.2.2.1 q hq).2.2
      rw [if_pos hq5] at this
      omega
  · refine WP_if (i_gei (by omega) (by omega)) (fun z => ?_) (fun z => ?_)
    · exact WP_some ⟨fun _ h => h, fun _ _ _ _ => Sm_r, Nat.le_refl _, Or.inl z⟩
    · rw [if_neg (by decide), show (2 : Int32) = Int32.ofNat 2 from rfl, i_div (by omega) (by omega) (by omega), show Int32.ofNat L + Int32.ofNat (L / 2) = Int32.ofNat (L + L / 2) from (Int32.ofNat_add L (L / 2)).symm, cgrow_n (by omega)]
      refine WP_b (WP_some ?_)
      have ho : ∀ cl i f, ¬ (cl = 11 ∧ i = q ∧ f = 8) → Sm c (csG c 11 q 8 (L + L / 2) (fun _ => 0)) cl i f := fun cl i f w => csG_o w
      have l8 : cL (csG c 11 q 8 (L + L / 2) (fun _ => 0)) 11 q 8 = L + L / 2 := csG_L
      have eT : cT (csG c 11 q 8 (L + L / 2) (fun _ => 0)) = ((cT c).1 + 1, (cT c).2 + (L + L / 2)) := rfl
      generalize csG c 11 q 8 (L + L / 2) (fun _ => 0) = c' at ho l8 eT
      refine ⟨fun v hv => ?_, ho, by rw [eT]; exact Nat.le_succ _, Or.inl (by omega)⟩
      obtain ⟨r1, r2, r3, r4⟩ := hv
      have n1 : nL c' v.1.1 = nL c v.1.1 := by
        unfold nL
        rw [(ho 14 0 15 (fun z => by omega)).2.2.2, (ho 14 0 16 (fun z => by omega)).2.2.2, sumN_eq (f := fun s => (cS c' 13 s 7).length) (g := fun s => (cS c 13 s 7).length) 7 (fun s _ => by rw [(ho 13 s 7 (fun z => by omega)).2.2.2])]
      have g1 := gA_8 (w := gw1) hq rfl l8 (fun cl i f z => (ho cl i f z).2.2.1)
      have g2 := gA_8 (w := gw2) hq rfl l8 (fun cl i f z => (ho cl i f z).2.2.1)
      have w1 : gw1 1 = 4 := rfl
      have w2 : gw2 1 = 3 := rfl
      rw [w1] at g1
      rw [w2] at g2
      obtain ⟨c1, c2, c3, c4, c5, c6⟩ := r4
      refine ⟨?_, ?_, by rw [n1]; exact r3, fun i hi => ?_, fun s hs => ?_, ?_, ?_, ?_, ?_⟩
      · rw [eT, n1]
        show 16 * ((cT c).1 + 1) ≤ _
        omega
      · rw [eT, n1]
        show (cT c).2 + (L + L / 2) ≤ _
        omega
      · by_cases z : i = q
        · subst z
          obtain ⟨d1, d2, d3⟩ := c1 i hi
          rw [l8, (ho 11 i 6 (fun z => by omega)).2.2.1, (ho 11 i 7 (fun z => by omega)).2.2.1, if_pos hq5]
          exact ⟨d1, d2, by omega⟩
        · rw [(ho 11 i 6 (fun w => z w.2.1)).2.2.1, (ho 11 i 7 (fun w => z w.2.1)).2.2.1, (ho 11 i 8 (fun w => z w.2.1)).2.2.1]
          exact c1 i hi
      · rw [(ho 10 s 14 (fun z => by omega)).2.2.1, (ho 13 s 18 (fun z => by omega)).2.2.1, (ho 13 s 7 (fun z => by omega)).2.2.1]
        exact c2 s hs
      · rw [(ho 4 0 2 (fun z => by omega)).2.2.1]
        exact c3
      · rw [(ho 4 0 3 (fun z => by omega)).2.2.1]
        exact c4
      · rw [(ho 14 0 15 (fun z => by omega)).2.2.1]
        exact c5
      · rw [(ho 14 0 16 (fun z => by omega)).2.2.1]
        exact c6
/-- the store with a snapshot written in a file -/
def aShW (a : AA) (s f : Nat) (F : AF) (L : Int32) (M : AM) : AA := aI (aI (aFkS (aFcS (aShS (aI a 67 s L) s M) s (aU (aFc a s) f F)) s (aU (aFk a s) f F)) 43 (16 * s + f) (F.1 1)) 47 s (Int32.ofNat f)
def gWS14 (cl fl : Nat) (σ : CS) (s0 : Nat) (s1 : Int32) (l0 : Nat) (l1 : Int32) (l2 : Int32) (l3 : Int32) (l4 : Nat) (l5 : Int32) : Option (CS) :=
  (some (csI σ 6 s0 9 0 s1)).bind fun σ1 =>
  (cix 6 0 (cI σ1 6 l0 9 0)).bind fun n3 =>
  (k_Page_write σ1 (30 * l0 + cpg n3) (((20 : Int32)) + l5) l1 l2 l3).bind fun p14 =>
  (k_Page_makeRoomForBytes p14 (30 * l0 + cpg n3) l5).bind fun p17 =>
  (ccpy p17 cl l4 fl ((0 : Int32)) 11 (30 * l0 + cpg n3) 8 ((0 : Int32)) l5).bind fun σ22 =>
  (some (csI σ22 11 (30 * l0 + cpg n3) 9 0 l5)).bind fun σ24 =>
  (cwr σ24 6 l0 2 (cI σ24 6 l0 9 0) (cI σ24 11 (30 * l0 + cpg n3) 1 0)).bind fun σ26 =>
  some σ26
theorem gWS_10 : k_Disk_writeSnapshot_10_14_b14 = gWS14 10 14 := rfl
theorem gWS_13 : k_Disk_writeSnapshot_13_18_b14 = gWS14 13 18 := rfl
theorem RC_shot {c c' : CS} {a : AA} {v : CV} {s f : Nat} {x y z : Int32} {M : AM} (h : RC c a v) (hs : s < 7) (hf : f = 2 ∨ f = 3) (hF : Ck [201, 352, 353, 354, 355, 356, 357, 361, 360, 194] s c c') (hT : (cT c).1 ≤ (cT c').1) (hr : KRm c' v) (hp : PG c' (30 * s + cpg f) (aF 1 (20 + Int32.ofNat (aEnc M).length) x y z [] M)) (hn : KSn c' (30 * s + cpg f) (aF 1 (20 + Int32.ofNat (aEnc M).length) x y z [] M)) (ho : ∀ q g, q / 30 = s → q ≠ 30 * s + cpg f → g < 10 → Sm c c' 11 q g) (h3 : ∀ g, g < 16 → cI c' 6 s 3 g = cI c 6 s 3 g) (hl : ∀ g, g < 16 → cI c' 6 s 2 g = if g = f then 20 + Int32.ofNat (aEnc M).length else cI c 6 s 2 g) (h9 : cI c' 6 s 9 0 = Int32.ofNat f) :
    RC c' (aShW a s f (aF 1 (20 + Int32.ofNat (aEnc M).length) x y z [] M) (Int32.ofNat (aEnc M).length) M) v := by
  have h16 : f < 16 := by omega
  generalize hF0 : aF 1 (20 + Int32.ofNat (aEnc M).length) x y z [] M = FF at hp hn
  have f0 : FF.1 0 = 1 := by rw [← hF0]; rfl
  have f1 : FF.1 1 = 20 + Int32.ofNat (aEnc M).length := by rw [← hF0]; rfl
  have f21 : FF.2.1 = [] := by rw [← hF0]; rfl
  have f22 : FF.2.2 = M := by rw [← hF0]; rfl
  have hck : ckp f = cpg f := by rcases hf with rfl | rfl <;> rfl
  have ed : ∀ (w : Nat → Nat → AF) t g, aU w s (aU (w s) f FF) t g = if t = s ∧ g = f then FF else w t g := by
    intro w t g
    unfold aU
    by_cases q : t = s
    · rw [if_pos q]
      by_cases u : g = f
      · rw [if_pos u, if_pos ⟨q, u⟩]
      · rw [if_neg u, if_neg (fun k => u k.2), q]
    · rw [if_neg q, if_neg (fun k => q k.1)]
  have efc : ∀ t g, aFc (aShW a s f FF (Int32.ofNat (aEnc M).length) M) t g = if t = s ∧ g = f then FF else aFc a t g := fun t g => ed (aFc a) t g
  have efk : ∀ t g, aFk (aShW a s f FF (Int32.ofNat (aEnc M).length) M) t g = if t = s ∧ g = f then FF else aFk a t g := fun t g => ed (aFk a) t g
  have esh : ∀ t, aSh (aShW a s f FF (Int32.ofNat (aEnc M).length) M) t = if t = s then M else aSh a t := fun t => rfl
  have e47 : ∀ t, aS (aShW a s f FF (Int32.ofNat (aEnc M).length) M) 47 t = if t = s then Int32.ofNat f else aS a 47 t := by
    intro t
    by_cases u : t = s
    · rw [if_pos u, u]
      exact if_pos ⟨rfl, rfl⟩
    · rw [if_neg u]
      exact if_neg (fun k => u k.2)
  have e67 : ∀ t, aS (aShW a s f FF (Int32.ofNat (aEnc M).length) M) 67 t = if t = s then Int32.ofNat (aEnc M).length else aS a 67 t := by
    intro t
    by_cases u : t = s
    · rw [if_pos u, u]
      exact if_pos ⟨rfl, rfl⟩
    · rw [if_neg u]
      exact if_neg (fun k => u k.2)
  have e43 : ∀ j, aS (aShW a s f FF (Int32.ofNat (aEnc M).length) M) 43 j = if j = 16 * s + f then FF.1 1 else aS a 43 j := by
    intro j
    by_cases u : j = 16 * s + f
    · rw [if_pos u, u]
      exact if_pos ⟨rfl, rfl⟩
    · rw [if_neg u]
      exact if_neg (fun k => u k.2)
  have e : ∀ g, g ∉ [43, 47, 67] → ∀ j, aS (aShW a s f FF (Int32.ofNat (aEnc M).length) M) g j = aS a g j := by
    intro g hg j
    simp only [List.mem_cons, List.not_mem_nil, or_false] at hg
    exact (if_neg (fun k => hg (Or.inr (Or.inl k.1)))).trans ((if_neg (fun k => hg (Or.inl k.1))).trans (if_neg (fun k => hg (Or.inr (Or.inr k.1)))))
  have esc : KSc c' (aShW a s f FF (Int32.ofNat (aEnc M).length) M) := by
    intro q hq i hi
    by_cases u : q = (47, 6, 9)
    · subst u
      show cI c' 6 i 9 0 = _
      rw [e47]
      by_cases k : i = s
      · rw [if_pos k, k, h9]
      · rw [if_neg k]
        rw [(hF 6 i 9 (by decide) (Or.inr ⟨rfl, k⟩)).1 0]
        exact h.1 (47, 6, 9) hq i hi
    · obtain ⟨y1, y2⟩ := (by decide : ∀ q ∈ sT, q ≠ (47, 6, 9) → q.1 ∉ [43, 47, 67] ∧ 32 * q.2.1 + q.2.2 ∉ [201, 352, 353, 354, 355, 356, 357, 361, 360, 194] ∧ q.2.2 < 32) q hq u
      rw [e _ y1, (hF q.2.1 i q.2.2 y2.2 (Or.inl y2.1)).1 0]
      exact h.1 q hq i hi
  have hpg : ∀ t, t < 7 → KPg c' t (aFc (aShW a s f FF (Int32.ofNat (aEnc M).length) M) t) (aFk (aShW a s f FF (Int32.ofNat (aEnc M).length) M) t) := by
    intro t ht g hg
    rw [efc, efk]
    by_cases q : t = s
    · subst q
      by_cases u : g = f
      · subst u
        rw [if_pos ⟨rfl, rfl⟩, if_pos ⟨rfl, rfl⟩]
        exact ⟨hp, by rw [hck]; exact hp, fun k1 k2 => by omega, fun _ => ⟨rfl, fun _ => hn⟩, fun _ => ⟨f21, f21⟩⟩
      · rw [if_neg (fun k => u k.2), if_neg (fun k => u k.2)]
        obtain ⟨y1, y2, y3, y4, y5⟩ := h.2.2.2.2.2.2.2.2.2.1 t ht g hg
        obtain ⟨i1, i2, i3⟩ := cpg_i g hg f h16
        obtain ⟨j1, j2, j3⟩ := cpg_i f h16 g hg
        have n1 : 30 * t + cpg g ≠ 30 * t + cpg f := fun k => u (i1.mp (by omega))
        have n3 : 30 * t + ckp g ≠ 30 * t + cpg f := fun k => u (j3.mp (by omega)).1.symm
        refine ⟨PG_fr (fun w hw => ho _ w (pg_o hg).1 n1 hw) y1, PG_fr (fun w hw => ho _ w (pg_o hg).2 n3 hw) y2, fun w1 w2 => ?_, fun w => ⟨(y4 w).1, fun w2 => KSn_fr (fun u hu => ho _ u (pg_o hg).1 n1 hu) ((y4 w).2 w2)⟩, y5⟩
        obtain ⟨m, m1, m2⟩ := y3 w1 w2
        exact ⟨m, (h3 g hg).trans m1, m2⟩
    · rw [if_neg (fun k => q k.1), if_neg (fun k => q k.1)]
      exact KPg_ne hF (by decide) q (h.2.2.2.2.2.2.2.2.2.1 t ht) g hg
  have hlw : ∀ t, t < 7 → KLw c' (aShW a s f FF (Int32.ofNat (aEnc M).length) M) t := by
    intro t ht g hg
    rw [e43]
    by_cases q : t = s
    · subst q
      rw [hl g hg]
      by_cases u : g = f
      · rw [if_pos u, if_pos (by rw [u]), f1]
      · rw [if_neg u, if_neg (by omega)]
        exact h.2.2.2.2.2.2.2.1 t ht g hg
    · rw [if_neg (by omega)]
      exact KLw_ne hF (by decide) q (h.2.2.2.2.2.2.2.1 t ht) g hg
  have hlt : KLt c' (aShW a s f FF (Int32.ofNat (aEnc M).length) M) v.1.1 := KLt_s (a := aShW a s f FF (Int32.ofNat (aEnc M).length) M) (hF 14 0 15 (by decide) (Or.inl (by decide))).2.2.2 (hF 14 0 16 (by decide) (Or.inl (by decide))).2.2.2 (fun t _ => (hF 13 t 7 (by decide) (Or.inl (by decide))).2.2.2) hT (fun ad g _ _ hg => hF 8 ad g (by omega) (Or.inl ((by decide : ∀ g, g < 20 → 32 * 8 + g ∉ [201, 352, 353, 354, 355, 356, 357, 361, 360, 194]) g hg))) h.2.2.2.2.2.2.2.2.2.2.2.2.2.2.2.2.2.2.2.1
  have hsh : ∀ t, t < 7 → aS (aShW a s f FF (Int32.ofNat (aEnc M).length) M) 52 t = 1 → shOK (aShW a s f FF (Int32.ofNat (aEnc M).length) M) t := by
    intro t ht hu
    rw [e 52 (by decide)] at hu
    by_cases q : t = s
    · subst q
      refine Or.inr ⟨f, hf, ?_, ?_, ?_, ?_⟩
      · rw [e47, if_pos rfl]
      · rw [efc, if_pos ⟨rfl, rfl⟩, f0]
      · rw [efc, if_pos ⟨rfl, rfl⟩, esh, if_pos rfl, f22]
      · rw [e67, if_pos rfl, esh, if_pos rfl]
    · exact shOK_f (h.2.2.2.2.2.2.2.2.2.2.2.2.2.2.2.2.2.2.2.2.2.1 t ht hu) (by rw [e47, if_neg q]) (by rw [e67, if_neg q]) (by rw [esh, if_neg q]) (fun g _ => by rw [efc, if_neg (fun k => q k.1)])
  exact ⟨esc, fr_k hF (by decide) e (by decide) h.2.1, hd_k hF (by decide) e (by decide) h.2.2.1, ld_k hF (by decide) e (by decide) h.2.2.2.1, rq_k hF (by decide) e (by decide) rfl h.2.2.2.2.1, bl_k hF (by decide) e (by decide) h.2.2.2.2.2.1, da_k hF (by decide) e (by decide) rfl h.2.2.2.2.2.2.1, hlw, fun s hs => KG_fr hF (by decide) (h.2.2.2.2.2.2.2.2.1 s hs), hpg, fun s hs => KCh_fr hF (by decide) (h.2.2.2.2.2.2.2.2.2.2.1 s hs), fun s hs => KMc_fr hF (by decide) (h.2.2.2.2.2.2.2.2.2.2.2.1 s hs), pc_k hF (by decide) e (by decide) rfl h.2.2.2.2.2.2.2.2.2.2.2.2.1, cl_k hF (by decide) e (by decide) h.2.2.2.2.2.2.2.2.2.2.2.2.2.1, fun k hk => KDn_fr hF (by decide) (h.2.2.2.2.2.2.2.2.2.2.2.2.2.2.1 k hk), KAk_fr hF (by decide) h.2.2.2.2.2.2.2.2.2.2.2.2.2.2.2.1, KFc_fr hF (by decide) h.2.2.2.2.2.2.2.2.2.2.2.2.2.2.2.2.1, id_k hF (by decide) e (by decide) h.2.2.2.2.2.2.2.2.2.2.2.2.2.2.2.2.2.1, fun k hk => KIc_fr hF (by decide) (h.2.2.2.2.2.2.2.2.2.2.2.2.2.2.2.2.2.2.1 k hk), hlt, hr, hsh, nw_k e (by decide) h.2.2.2.2.2.2.2.2.2.2.2.2.2.2.2.2.2.2.2.2.2.2⟩
theorem K_shot {cl fl : Nat} {c : CS} {a : AA} {v : CV} {s f l4 : Nat} {x y z : Int32} {M : AM} (h : RC c a v) (hs : s < 7) (hf : f = 2 ∨ f = 3) (hcl : cl = 10 ∧ fl = 14 ∨ cl = 13 ∧ fl = 18) (w : wfM M) (hc : (aEnc M).length ≤ cal c cl l4 fl) (hsrc : ∀ i, i < (aEnc M).length → cI c cl l4 fl i = (aEnc (cM M)).getD i 0) :
    WP (gWS14 cl fl c s (Int32.ofNat f) s x y z l4 (Int32.ofNat (aEnc M).length)) (fun c' => RC c' (aShW a s f (aF 1 (20 + Int32.ofNat (aEnc M).length) x y z [] M) (Int32.ofNat (aEnc M).length) M) v) := by
  obtain ⟨L1, L2⟩ := aEnc_len w
  have h16 : f < 16 := by omega
  have q1 : 30 * s + cpg f < 210 := (pg_t hs h16).1
  have q5 : (30 * s + cpg f) % 30 = 4 ∨ (30 * s + cpg f) % 30 = 5 := by
    rcases hf with rfl | rfl
    · left; show (30 * s + 4) % 30 = 4; omega
    · right; show (30 * s + 5) % 30 = 5; omega
  have ow : cOwn 11 (30 * s + cpg f) = s := (if_pos rfl).trans (pg_o h16).1
  have y1 := (h.2.2.2.2.2.2.2.2.2.1 s hs f h16).1
  unfold gWS14
  refine WP_b ?_
  rw [csI_e, cix0 h16]
  refine WP_b ?_
  have y2 : PG (csI c 6 s 9 0 (Int32.ofNat f)) (30 * s + cpg f) (aFc a s f) := PG_fr (c := c) (fun g _ => ⟨fun j => csI_cl (by decide), fun _ => rfl, rfl, rfl⟩) y1
  refine WP_call (K_pw (hz := 20 + Int32.ofNat (aEnc M).length) (x := x) (y := y) (z := z) M y2) (fun c2 hc2 => ?_)
  obtain ⟨p1, p2, _⟩ := hc2
  refine WP_call (K_roomB q1 q5 L2 L1) (fun c3 hc3 => ?_)
  obtain ⟨r1, r2, r3, r4⟩ := hc3
  have cap := (h.2.2.2.2.2.2.2.2.2.2.2.2.2.2.2.2.2.2.2.2.1.2.2.2.1 _ q1).2.2
  rw [if_pos q5] at cap
  have eL2 : cL c2 = cL c := p1.2.2.1
  have r4' : (aEnc M).length ≤ cL c3 11 (30 * s + cpg f) 8 := r4.resolve_right (by rw [eL2]; omega)
  have ne : ∀ j, ¬ (cl = 11 ∧ l4 = 30 * s + cpg f ∧ fl = j) := fun j k => by omega
  have cal3 : cal c3 cl l4 fl = cal c cl l4 fl := by
    unfold cal
    rw [(r2 cl l4 fl (ne 8)).2.2.1, eL2]
  have src3 : ∀ i, cI c3 cl l4 fl i = cI c cl l4 fl i := fun i => ((r2 cl l4 fl (ne 8)).1 i).trans (((p1.1 cl l4 fl (fun k => by omega)).1 i).trans (if_neg (fun k => by omega)))
  refine WP_eq (ccpy_n (s := 0) (t := 0) (n := (aEnc M).length) rfl rfl rfl (by rw [cal3]; omega) (show 0 + (aEnc M).length ≤ cL c3 11 (30 * s + cpg f) 8 by omega) (by omega) (by omega)) (WP_b ?_)
  generalize hc4 : csA c3 11 (30 * s + cpg f) 8 (fun w => if 0 ≤ w ∧ w < 0 + (aEnc M).length then cI c3 cl l4 fl (0 + (w - 0)) else cI c3 11 (30 * s + cpg f) 8 w) = c4
  have o4 : ∀ cl i g, ¬ (cl = 11 ∧ i = 30 * s + cpg f ∧ g = 8) → Sm c3 c4 cl i g := fun cl i g k => by
    rw [← hc4]
    exact ⟨fun _ => if_neg k, fun _ => rfl, rfl, rfl⟩
  have i4 : ∀ i, i < (aEnc M).length → cI c4 11 (30 * s + cpg f) 8 i = (aEnc (cM M)).getD i 0 := fun i hi => by
    rw [← hc4]
    refine (if_pos ⟨rfl, rfl, rfl⟩).trans ((if_pos ⟨Nat.zero_le _, by omega⟩).trans ?_)
    rw [Nat.sub_zero, Nat.zero_add, src3, hsrc i hi]
  have a4 : cL c4 = cL c3 ∧ cS c4 = cS c3 ∧ cT c4 = cT c3 := by
    rw [← hc4]
    exact ⟨rfl, rfl, rfl⟩
  -- from the first to the fourth
  have o14 : ∀ cl' i g, ¬ (cl' = 11 ∧ i = 30 * s + cpg f ∧ g ∈ [0, 1, 2, 3, 4, 5, 9, 8]) → Sm (csI c 6 s 9 0 (Int32.ofNat f)) c4 cl' i g := fun cl' i g k => Sm_t (p1.1 cl' i g (fun u => k ⟨u.1, u.2.1, by have := u.2.2; simp only [List.mem_cons, List.not_mem_nil, or_false] at this ⊢; omega⟩)) (Sm_t (r2 cl' i g (fun u => k ⟨u.1, u.2.1, by rw [u.2.2]; decide⟩)) (o4 cl' i g (fun u => k ⟨u.1, u.2.1, by rw [u.2.2]; decide⟩)))
  have e9 : cI c4 6 s 9 0 = Int32.ofNat f := ((o14 6 s 9 (fun u => absurd u.1 (by decide))).1 0).trans csI_e
  have e2 : ∀ j, cI c4 6 s 2 j = cI c 6 s 2 j := fun j => ((o14 6 s 2 (fun u => absurd u.1 (by decide))).1 j).trans (csI_f (by decide))
  have e3 : ∀ j, cI c4 6 s 3 j = cI c 6 s 3 j := fun j => ((o14 6 s 3 (fun u => absurd u.1 (by decide))).1 j).trans (csI_f (by decide))
  have y4 : PG c4 (30 * s + cpg f) (aF 1 (20 + Int32.ofNat (aEnc M).length) x y z [] M) := by
    obtain ⟨t0, t1, t2, t3, t4, t5, t6, t7, t8, t9, t10, t11⟩ := p2
    have o : ∀ g j, g ≠ 8 → cI c4 11 (30 * s + cpg f) g j = cI c2 11 (30 * s + cpg f) g j := fun g j hg => ((o4 11 _ g (fun u => hg u.2.2)).1 j).trans ((r2 11 _ g (fun u => hg u.2.2)).1 j)
    have oL : ∀ g, g ≠ 8 → cL c4 11 (30 * s + cpg f) g = cL c2 11 (30 * s + cpg f) g := fun g hg => ((o4 11 _ g (fun u => hg u.2.2)).2.2.1).trans ((r2 11 _ g (fun u => hg u.2.2)).2.2.1)
    refine ⟨(o 0 0 (by decide)).trans t0, (o 1 0 (by decide)).trans t1, (o 2 0 (by decide)).trans t2, (o 3 0 (by decide)).trans t3, (o 4 0 (by decide)).trans t4, (o 5 0 (by decide)).trans t5, fun i hi => ⟨fun j hj => (o 6 _ (by decide)).trans ((t6 i hi).1 j hj), (o 7 _ (by decide)).trans (t6 i hi).2⟩, ?_, ?_, t9, t10, t11⟩
    · rw [oL 7 (by decide)]
      exact t7
    · rw [oL 7 (by decide), oL 6 (by decide)]
      exact t8
  have E9 : cI (csI c4 11 (30 * s + cpg f) 9 0 (Int32.ofNat (aEnc M).length)) 6 s 9 0 = Int32.ofNat f := (csI_cl (by decide)).trans e9
  have E1 : cI (csI c4 11 (30 * s + cpg f) 9 0 (Int32.ofNat (aEnc M).length)) 11 (30 * s + cpg f) 1 0 = 20 + Int32.ofNat (aEnc M).length := (csI_f (by decide)).trans y4.2.1
  rw [E9, E1]
  refine WP_eq (cwr_n rfl (show f < 16 from h16) (by omega)) (WP_some ?_)
  have s5 : ∀ cl' i g, cl' ≠ 6 → ¬ (cl' = 11 ∧ i = 30 * s + cpg f ∧ g = 9) → Sm c4 (csI (csI c4 11 (30 * s + cpg f) 9 0 (Int32.ofNat (aEnc M).length)) 6 s 2 f (20 + Int32.ofNat (aEnc M).length)) cl' i g := fun cl' i g k1 k2 => ⟨fun j => (csI_cl k1).trans (csI_ne (fun u => k2 ⟨u.1, u.2.1, u.2.2.1⟩)), fun _ => rfl, rfl, rfl⟩
  refine RC_shot h hs hf ?_ ?_ ?_ ?_ ?_ ?_ ?_ ?_ ?_
  · have k1 : Ck [201] s c (csI c 6 s 9 0 (Int32.ofNat f)) := Ck_I (cl := 6) (i := s) (f := 9) (Or.inr rfl)
    have k2 : Ck [352, 353, 354, 355, 356, 357, 361, 360] s (csI c 6 s 9 0 (Int32.ofNat f)) c4 := by
      intro cl' i g _ k
      refine o14 cl' i g (fun u => ?_)
      obtain ⟨u1, u2, u3⟩ := u
      subst u1
      subst u2
      rcases k with k | ⟨_, k⟩
      · exact k ((by decide : ∀ g ∈ [0, 1, 2, 3, 4, 5, 9, 8], 32 * 11 + g ∈ [352, 353, 354, 355, 356, 357, 361, 360]) g u3)
      · exact k ow
    have k3 : Ck [361] s c4 (csI c4 11 (30 * s + cpg f) 9 0 (Int32.ofNat (aEnc M).length)) := Ck_I (cl := 11) (i := 30 * s + cpg f) (f := 9) (Or.inr ow)
    have k4 : Ck [194] s (csI c4 11 (30 * s + cpg f) 9 0 (Int32.ofNat (aEnc M).length)) (csI (csI c4 11 (30 * s + cpg f) 9 0 (Int32.ofNat (aEnc M).length)) 6 s 2 f (20 + Int32.ofNat (aEnc M).length)) := Ck_I (cl := 6) (i := s) (f := 2) (Or.inr rfl)
    exact Ck_w (Ck_t (Ck_t (Ck_t k1 k2) k3) k4) (by decide)
  · show (cT c).1 ≤ (cT c4).1
    rw [a4.2.2]
    have := p1.2.1
    rw [this] at r3
    exact r3
  · refine KRm_eq (c := c3) a4.1 a4.2.1 a4.2.2 (r1 v (KRm_eq (c := c) p1.2.2.1 p1.2.2.2 p1.2.1 h.2.2.2.2.2.2.2.2.2.2.2.2.2.2.2.2.2.2.2.2.1))
  · obtain ⟨t0, t1, t2, t3, t4, t5, t6, t7, t8, t9, t10, t11⟩ := y4
    have o : ∀ g j, g ≠ 9 → cI (csI (csI c4 11 (30 * s + cpg f) 9 0 (Int32.ofNat (aEnc M).length)) 6 s 2 f (20 + Int32.ofNat (aEnc M).length)) 11 (30 * s + cpg f) g j = cI c4 11 (30 * s + cpg f) g j := fun g j hg => (csI_cl (by decide)).trans (csI_f hg)
    exact ⟨(o 0 0 (by decide)).trans t0, (o 1 0 (by decide)).trans t1, (o 2 0 (by decide)).trans t2, (o 3 0 (by decide)).trans t3, (o 4 0 (by decide)).trans t4, (o 5 0 (by decide)).trans t5, fun i hi => ⟨fun j hj => (o 6 _ (by decide)).trans ((t6 i hi).1 j hj), (o 7 _ (by decide)).trans (t6 i hi).2⟩, t7, t8, t9, t10, t11⟩
  · refine ⟨(csI_cl (by decide)).trans csI_e, ?_, ?_, fun i hi => ?_⟩
    · show 20 + Int32.ofNat (aEnc M).length = Int32.ofNat (20 + (aEnc M).length)
      rw [Int32.ofNat_add]
      rfl
    · show (aEnc M).length ≤ cL c4 11 (30 * s + cpg f) 8
      rw [a4.1]
      exact r4'
    · exact ((csI_cl (by decide)).trans (csI_f (by decide))).trans (i4 i hi)
  · intro q g hq n1 hg
    exact Sm_t (Sm_t (⟨fun j => csI_cl (by decide), fun _ => rfl, rfl, rfl⟩ : Sm c (csI c 6 s 9 0 (Int32.ofNat f)) 11 q g) (o14 11 q g (fun u => n1 u.2.1))) (s5 11 q g (by decide) (fun u => n1 u.2.1))
  · intro g hg
    exact (csI_f (by decide)).trans ((csI_cl (by decide)).trans (e3 g))
  · intro g hg
    by_cases u : g = f
    · rw [if_pos u, u, csI_e]
    · rw [if_neg u, csI_j u]
      exact (csI_cl (by decide)).trans (e2 g)
  · exact (csI_f (by decide)).trans E9
theorem K_writeSnap {cl fl : Nat} {c : CS} {a : AA} {v : CV} {s l4 : Nat} {x y z : Int32} {M : AM} (h : RC c a v) (hs : s < 7) (hcl : cl = 10 ∧ fl = 14 ∨ cl = 13 ∧ fl = 18) (w : wfM M) (hc : (aEnc M).length ≤ cal c cl l4 fl) (hsrc : ∀ i, i < (aEnc M).length → cI c cl l4 fl i = (aEnc (cM M)).getD i 0) :
    WP (if xc2 .ne (cI c 6 s 9 0) ((2 : Int32)) = true then gWS14 cl fl c s ((2 : Int32)) s x y z l4 (Int32.ofNat (aEnc M).length) else gWS14 cl fl c s ((3 : Int32)) s x y z l4 (Int32.ofNat (aEnc M).length)) (fun c' => RC c' (aShW a s (if aS a 47 s = 2 then 3 else 2) (aF 1 (20 + Int32.ofNat (aEnc M).length) x y z [] M) (Int32.ofNat (aEnc M).length) M) v) := by
  rw [K_r h (F := 47) (cl := 6) (f := 9) (by decide) hs]
  refine WP_if c2_ne (fun q => ?_) (fun q => ?_)
  · rw [if_neg q]
    exact K_shot (f := 2) h hs (Or.inl rfl) hcl w hc hsrc
  · rw [if_pos (Classical.not_not.mp q)]
    exact K_shot (f := 3) h hs (Or.inr rfl) hcl w hc hsrc
theorem K_writeSnap10 {c : CS} {a : AA} {v : CV} {s : Nat} {x y z : Int32} {M : AM} (h : RC c a v) (hs : s < 7) (w : wfM M) (hc : (aEnc M).length ≤ cal c 10 s 14) (hsrc : ∀ i, i < (aEnc M).length → cI c 10 s 14 i = (aEnc (cM M)).getD i 0) : WP (k_Disk_writeSnapshot_10_14 c s x y z s (Int32.ofNat (aEnc M).length)) (fun c' => RC c' (aShW a s (if aS a 47 s = 2 then 3 else 2) (aF 1 (20 + Int32.ofNat (aEnc M).length) x y z [] M) (Int32.ofNat (aEnc M).length) M) v) := K_writeSnap (cl := 10) (fl := 14) h hs (Or.inl ⟨rfl, rfl⟩) w hc hsrc
theorem K_writeSnap13 {c : CS} {a : AA} {v : CV} {s : Nat} {x y z : Int32} {M : AM} (h : RC c a v) (hs : s < 7) (w : wfM M) (hc : (aEnc M).length ≤ cal c 13 s 18) (hsrc : ∀ i, i < (aEnc M).length → cI c 13 s 18 i = (aEnc (cM M)).getD i 0) : WP (k_Disk_writeSnapshot_13_18 c s x y z s (Int32.ofNat (aEnc M).length)) (fun c' => RC c' (aShW a s (if aS a 47 s = 2 then 3 else 2) (aF 1 (20 + Int32.ofNat (aEnc M).length) x y z [] M) (Int32.ofNat (aEnc M).length) M) v) := K_writeSnap (cl := 13) (fl := 18) h hs (Or.inr ⟨rfl, rfl⟩) w hc hsrc
/-- as the store writes it: the snapshot behind the moved base -/
theorem aShot_e {a : AA} {s : Nat} {L : Int32} {M : AM} : aWriteShot (aShS (aI a 67 s L) s M) s = aShW a s (if aS a 47 s = 2 then 3 else 2) (aF 1 (20 + L) (aS a 55 s) (aS a 57 s) (aS a 58 s) [] M) L M := by
  have e1 : aSh (aShS (aI a 67 s L) s M) s = M := if_pos rfl
  have e2 : aS (aShS (aI a 67 s L) s M) 67 s = L := if_pos ⟨rfl, rfl⟩
  have e3 : aS (aShS (aI a 67 s L) s M) 47 s = aS a 47 s := rfl
  unfold aWriteShot
  rw [e1, e2, e3]
  have e4 : aF 1 (20 + L) (aS (aShS (aI a 67 s L) s M) 55 s) (aS (aShS (aI a 67 s L) s M) 57 s) (aS (aShS (aI a 67 s L) s M) 58 s) [] M = aF 1 (20 + L) (aS a 55 s) (aS a 57 s) (aS a 58 s) [] M := rfl
  rw [e4]
  generalize (if aS a 47 s = 2 then 3 else 2) = f
  generalize aF 1 (20 + L) (aS a 55 s) (aS a 57 s) (aS a 58 s) [] M = F
  have e5 : aFc (aPut (aShS (aI a 67 s L) s M) s f F) s f = F := aFc_put.trans (if_pos ⟨rfl, rfl⟩)
  show aI (aI (aFkS (aPut (aShS (aI a 67 s L) s M) s f F) s (aU (aFk (aPut (aShS (aI a 67 s L) s M) s f F) s) f (aFc (aPut (aShS (aI a 67 s L) s M) s f F) s f))) 43 (16 * s + f) ((aFc (aPut (aShS (aI a 67 s L) s M) s f F) s f).1 1)) 47 s (Int32.ofNat f) = _
  rw [e5]
  rfl
