/-! what a leader sends -/
def ldT : List (Nat × Nat) := [(86, 0), (87, 1), (88, 2), (90, 3), (91, 4), (92, 5), (89, 6), (93, 7)]
theorem ldT_u : ∀ x ∈ ldT, ∀ y ∈ ldT, (x.1 = y.1 ↔ x.2 = y.2) := by decide
theorem KLd_i {c : CS} {a : AA} {s : Nat} : KLd c a s ↔ cI c 7 s 8 0 = aS a 82 s ∧ cI c 7 s 9 0 = aS a 83 s ∧ ∀ y ∈ ldT, ∀ p, p < 7 → cI c 7 s y.2 p = aS a y.1 (7 * s + p) := by
  constructor
  · rintro ⟨h1, h2, h3⟩
    refine ⟨h1, h2, fun y hy p hp => ?_⟩
    obtain ⟨a1, a2, a3, a4, a5, a6, a7, a8⟩ := h3 p hp
    simp only [ldT, List.mem_cons, List.not_mem_nil, or_false] at hy
    rcases hy with rfl | rfl | rfl | rfl | rfl | rfl | rfl | rfl
    · exact a1
    · exact a2
    · exact a3
    · exact a4
    · exact a5
    · exact a6
    · exact a7
    · exact a8
  · rintro ⟨h1, h2, h3⟩
    refine ⟨h1, h2, fun p hp => ?_⟩
    exact ⟨h3 (86, 0) (by decide) p hp, h3 (87, 1) (by decide) p hp, h3 (88, 2) (by decide) p hp, h3 (90, 3) (by decide) p hp, h3 (91, 4) (by decide) p hp, h3 (92, 5) (by decide) p hp, h3 (89, 6) (by decide) p hp, h3 (93, 7) (by decide) p hp⟩
theorem K_ld {c : CS} {a : AA} {v : CV} {s p F f : Nat} (h : RC c a v) (hs : s < 7) (hr : aS a 73 s = 3) (hm : (F, f) ∈ ldT) (hp : p < 7) : cI c 7 s f p = aS a F (7 * s + p) := (KLd_i.mp (h.2.2.2.1 s hs hr)).2.2 _ hm p hp
theorem K_crd {c : CS} {a : AA} {v : CV} {s p F f : Nat} (h : RC c a v) (hs : s < 7) (hr : aS a 73 s = 3) (hm : (F, f) ∈ ldT) (hp : p < 7) : crd c 7 s f (Int32.ofNat p) = some (aS a F (7 * s + p)) := by
  have hc : p < cal c 7 s f := by
    have : ∀ y ∈ ldT, cK 7 y.2 = 2 ∧ cln 7 y.2 = 7 := by decide
    obtain ⟨e1, e2⟩ := this _ hm
    have e1' : cK 7 f = 2 := e1
    have e2' : cln 7 f = 7 := e2
    unfold cal
    rw [if_neg (by omega), e2']
    exact hp
  rw [crd_n rfl hc (by omega), K_ld h hs hr hm hp]
theorem K_cwr {c : CS} {s p f F : Nat} {x : Int32} (hm : (F, f) ∈ ldT) (hp : p < 7) : cwr c 7 s f (Int32.ofNat p) x = some (csI c 7 s f p x) := by
  have hc : p < cal c 7 s f := by
    have : ∀ y ∈ ldT, cK 7 y.2 = 2 ∧ cln 7 y.2 = 7 := by decide
    obtain ⟨e1, e2⟩ := this _ hm
    have e1' : cK 7 f = 2 := e1
    have e2' : cln 7 f = 7 := e2
    unfold cal
    rw [if_neg (by omega), e2']
    exact hp
  exact cwr_n rfl hc (by omega)
def ldW : List Nat := [86, 87, 88, 89, 90, 91, 92, 93]
theorem ldT_w : ∀ y ∈ ldT, y.1 ∈ ldW ∧ y.2 < 8 := by decide
theorem RC_ldw {c : CS} {a : AA} {v : CV} {s p F f : Nat} {x : Int32} (h : RC c a v) (hm : (F, f) ∈ ldT) (hp : p < 7) : RC (csI c 7 s f p x) (aI a F (7 * s + p) x) v := by
  obtain ⟨g1, g2⟩ := ldT_w _ hm
  have hF : Ck [224, 225, 226, 227, 228, 229, 230, 231] s c (csI c 7 s f p x) := by
    refine Ck_w (Ck_I (Or.inr rfl)) (fun y hy => ?_)
    rw [List.mem_singleton.mp hy]
    exact (by decide : ∀ f, f < 8 → 32 * 7 + f ∈ [224, 225, 226, 227, 228, 229, 230, 231]) f g2
  have e : ∀ g, g ∉ ldW → ∀ j, aS (aI a F (7 * s + p) x) g j = aS a g j := fun g hg j => aS_If (fun z => hg (z ▸ g1))
  have hl : ∀ t, t < 7 → aS (aI a F (7 * s + p) x) 73 t = 3 → KLd (csI c 7 s f p x) (aI a F (7 * s + p) x) t := by
    intro t ht hr
    rw [e 73 (by decide)] at hr
    obtain ⟨k1, k2, k3⟩ := KLd_i.mp (h.2.2.2.1 t ht hr)
    refine KLd_i.mpr ⟨?_, ?_, fun y hy q hq => ?_⟩
    · rw [e 82 (by decide), csI_f (by omega)]
      exact k1
    · rw [e 83 (by decide), csI_f (by omega)]
      exact k2
    · have u := ldT_u y hy _ hm
      show (if 7 = 7 ∧ t = s ∧ y.2 = f ∧ q = p then x else cI c 7 t y.2 q) = (if y.1 = F ∧ 7 * t + q = 7 * s + p then x else aS a y.1 (7 * t + q))
      by_cases z : t = s ∧ y.2 = f ∧ q = p
      · rw [if_pos ⟨rfl, z⟩, if_pos ⟨u.mpr z.2.1, by omega⟩]
      · rw [if_neg (fun w => z w.2), if_neg (fun w => z ⟨by omega, u.mp w.1, by omega⟩)]
        exact k3 y hy q hq
  exact ⟨KSc_k hF (by decide) e (by decide) h.1, fr_k hF (by decide) e (by decide) h.2.1, hd_k hF (by decide) e (by decide) h.2.2.1, hl, rq_k hF (by decide) e (by decide) rfl h.2.2.2.2.1, bl_k hF (by decide) e (by decide) h.2.2.2.2.2.1, da_k hF (by decide) e (by decide) rfl h.2.2.2.2.2.2.1, lw_k hF (by decide) e (by decide) h.2.2.2.2.2.2.2.1, fun s hs => KG_fr hF (by decide) (h.2.2.2.2.2.2.2.2.1 s hs), fun s hs => KPg_fr hF (by decide) (h.2.2.2.2.2.2.2.2.2.1 s hs), fun s hs => KCh_fr hF (by decide) (h.2.2.2.2.2.2.2.2.2.2.1 s hs), fun s hs => KMc_fr hF (by decide) (h.2.2.2.2.2.2.2.2.2.2.2.1 s hs), pc_k hF (by decide) e (by decide) rfl h.2.2.2.2.2.2.2.2.2.2.2.2.1, cl_k hF (by decide) e (by decide) h.2.2.2.2.2.2.2.2.2.2.2.2.2.1, fun k hk => KDn_fr hF (by decide) (h.2.2.2.2.2.2.2.2.2.2.2.2.2.2.1 k hk), KAk_fr hF (by decide) h.2.2.2.2.2.2.2.2.2.2.2.2.2.2.2.1, KFc_fr hF (by decide) h.2.2.2.2.2.2.2.2.2.2.2.2.2.2.2.2.1, id_k hF (by decide) e (by decide) h.2.2.2.2.2.2.2.2.2.2.2.2.2.2.2.2.2.1, fun k hk => KIc_fr hF (by decide) (h.2.2.2.2.2.2.2.2.2.2.2.2.2.2.2.2.2.2.1 k hk), KLt_fr hF rfl (by decide) h.2.2.2.2.2.2.2.2.2.2.2.2.2.2.2.2.2.2.2.1, KRm_fr hF rfl (by decide) h.2.2.2.2.2.2.2.2.2.2.2.2.2.2.2.2.2.2.2.2.1, sh_k e (by decide) rfl rfl h.2.2.2.2.2.2.2.2.2.2.2.2.2.2.2.2.2.2.2.2.2.1, nw_k e (by decide) h.2.2.2.2.2.2.2.2.2.2.2.2.2.2.2.2.2.2.2.2.2.2⟩
theorem from_j {a : AA} {s : Nat} {x : Int32} (w : WLg a s) (h1 : aBase a s < x) (h2 : x ≤ aLast a s + 1) : ∃ j, j ≤ (aLg a s).length ∧ x = aBase a s + 1 + Int32.ofNat j := by
  obtain ⟨w1, w2, w3, w4⟩ := id w
  rw [Int32.lt_iff_toInt_lt] at h1
  rw [Int32.le_iff_toInt_le, i_succ (by omega)] at h2
  refine ⟨(x.toInt - (aBase a s).toInt - 1).toNat, by omega, ?_⟩
  apply Int32.toInt_inj.mp
  rw [i_addI, i_succ (by omega), Int32.toInt_ofNat_of_lt (by omega)]
  · omega
  all_goals (rw [i_succ (by omega), Int32.toInt_ofNat_of_lt (by omega)]; omega)
theorem K_putEntries {c : CS} {a : AA} {s p ad j n : Nat} {H : List (Nat × Option AL)} {U : Nat → Int32} {N : Nat × Nat} (h : RC c a (((ad, none) :: H, U), N)) (hs : s < 7) (w : WLg a s) (hr : aS a 73 s = 3) (hj : j + n ≤ (aLg a s).length) (hn : n ≤ 6) (l0 : L6 c ad (Int32.ofNat s) (Int32.ofNat p) 5 (aS a 53 s)) : WP (k_Server_putEntries c s ad (aBase a s + 1 + Int32.ofNat j) (Int32.ofNat n)) (fun c' => RC c' a (((ad, some (aEntries a s p (aBase a s + 1 + Int32.ofNat j) n)) :: H, U), N)) := by
  obtain ⟨w1, w2, w3, w4⟩ := id w
  obtain ⟨l2, l3, l4, l5, l6, l17⟩ := l0
  unfold k_Server_putEntries k_Server_putEntries_b0 k_Server_putEntries_b79
  have h1 := RC_I8 (ad := ad) (f := 7) (j := 0) (x := aBase a s + 1 + Int32.ofNat j - 1) h
  refine WP_b ?_
  rw [K_termAt h1 hs w]
  refine WP_b (WP_b ?_)
  have h2 := RC_I8 (ad := ad) (f := 8) (j := 0) (x := aTermAt a s (aBase a s + 1 + Int32.ofNat j - 1)) h1
  rw [K_r h2 (F := 75) (cl := 9) (f := 9) (by decide) hs]
  have h3 := RC_I8 (ad := ad) (f := 9) (j := 0) (x := aS a 75 s) h2
  refine WP_b ?_
  rw [(h3.2.2.2.1 s hs hr).2.1]
  have h4 := RC_I8 (ad := ad) (f := 10) (j := 0) (x := aS a 83 s) h3
  refine WP_b ?_
  have h5 := RC_I8 (ad := ad) (f := 17) (j := 0) (x := Int32.ofNat n) h4
  refine WP_b ?_
  have c7 : cI (csI (csI (csI (csI (csI c 8 ad 7 0 (aBase a s + 1 + Int32.ofNat j - 1)) 8 ad 8 0 (aTermAt a s (aBase a s + 1 + Int32.ofNat j - 1))) 8 ad 9 0 (aS a 75 s)) 8 ad 10 0 (aS a 83 s)) 8 ad 17 0 (Int32.ofNat n)) 8 ad 7 0 = aBase a s + 1 + Int32.ofNat j - 1 := by
    rw [csI_f (by decide), csI_f (by decide), csI_f (by decide), csI_f (by decide), csI_e]
  have c8 : cI (csI (csI (csI (csI (csI c 8 ad 7 0 (aBase a s + 1 + Int32.ofNat j - 1)) 8 ad 8 0 (aTermAt a s (aBase a s + 1 + Int32.ofNat j - 1))) 8 ad 9 0 (aS a 75 s)) 8 ad 10 0 (aS a 83 s)) 8 ad 17 0 (Int32.ofNat n)) 8 ad 8 0 = aTermAt a s (aBase a s + 1 + Int32.ofNat j - 1) := by
    rw [csI_f (by decide), csI_f (by decide), csI_f (by decide), csI_e]
  have c9 : cI (csI (csI (csI (csI (csI c 8 ad 7 0 (aBase a s + 1 + Int32.ofNat j - 1)) 8 ad 8 0 (aTermAt a s (aBase a s + 1 + Int32.ofNat j - 1))) 8 ad 9 0 (aS a 75 s)) 8 ad 10 0 (aS a 83 s)) 8 ad 17 0 (Int32.ofNat n)) 8 ad 9 0 = aS a 75 s := by
    rw [csI_f (by decide), csI_f (by decide), csI_e]
  have c10 : cI (csI (csI (csI (csI (csI c 8 ad 7 0 (aBase a s + 1 + Int32.ofNat j - 1)) 8 ad 8 0 (aTermAt a s (aBase a s + 1 + Int32.ofNat j - 1))) 8 ad 9 0 (aS a 75 s)) 8 ad 10 0 (aS a 83 s)) 8 ad 17 0 (Int32.ofNat n)) 8 ad 10 0 = aS a 83 s := by
    rw [csI_f (by decide), csI_e]
  have c17 : cI (csI (csI (csI (csI (csI c 8 ad 7 0 (aBase a s + 1 + Int32.ofNat j - 1)) 8 ad 8 0 (aTermAt a s (aBase a s + 1 + Int32.ofNat j - 1))) 8 ad 9 0 (aS a 75 s)) 8 ad 10 0 (aS a 83 s)) 8 ad 17 0 (Int32.ofNat n)) 8 ad 17 0 = Int32.ofNat n := csI_e
  have c0 : ∀ f, f ∈ [2, 3, 4, 5] → cI (csI (csI (csI (csI (csI c 8 ad 7 0 (aBase a s + 1 + Int32.ofNat j - 1)) 8 ad 8 0 (aTermAt a s (aBase a s + 1 + Int32.ofNat j - 1))) 8 ad 9 0 (aS a 75 s)) 8 ad 10 0 (aS a 83 s)) 8 ad 17 0 (Int32.ofNat n)) 8 ad f 0 = cI c 8 ad f 0 := by
    intro f hf
    simp only [List.mem_cons, List.not_mem_nil, or_false] at hf
    rw [csI_f (by omega), csI_f (by omega), csI_f (by omega), csI_f (by omega), csI_f (by omega)]
  have hlg : ∀ i, i < (aLg a s).length → ∀ y, y < 6 → cI (csI (csI (csI (csI (csI c 8 ad 7 0 (aBase a s + 1 + Int32.ofNat j - 1)) 8 ad 8 0 (aTermAt a s (aBase a s + 1 + Int32.ofNat j - 1))) 8 ad 9 0 (aS a 75 s)) 8 ad 10 0 (aS a 83 s)) 8 ad 17 0 (Int32.ofNat n)) 9 s 1 (6 * i + y) = kF ((aLg a s).getD i aE0) y := (h5.2.2.2.2.2.2.2.2.1 s hs).1
  have e55 := K_r h5 (F := 55) (cl := 9) (f := 3) (by decide) hs
  generalize csI (csI (csI (csI (csI c 8 ad 7 0 (aBase a s + 1 + Int32.ofNat j - 1)) 8 ad 8 0 (aTermAt a s (aBase a s + 1 + Int32.ofNat j - 1))) 8 ad 9 0 (aS a 75 s)) 8 ad 10 0 (aS a 83 s)) 8 ad 17 0 (Int32.ofNat n) = c5 at h5 c7 c8 c9 c10 c17 c0 hlg e55
  have ej : (aBase a s + 1 + Int32.ofNat j - aBase a s - 1).toNatClampNeg = j := by
    rw [Int32.add_comm (aBase a s + 1) (Int32.ofNat j), Int32.add_comm (aBase a s) 1, ← Int32.add_assoc, Int32.add_sub_cancel, Int32.add_sub_cancel, i_cl (by omega)]
  have ees : (aEntries a s p (aBase a s + 1 + Int32.ofNat j) n).2.1 = ((aLg a s).drop j).take n := by
    show ((aLg a s).drop (aBase a s + 1 + Int32.ofNat j - aBase a s - 1).toNatClampNeg).take n = _
    rw [ej]
  have elen : (aEntries a s p (aBase a s + 1 + Int32.ofNat j) n).2.1.length = n := by
    rw [ees, List.length_take, List.length_drop]
    omega
  -- a letter that has the rows
  have fin : ∀ c6, (∀ f, f < 18 → cI c6 8 ad f 0 = cI c5 8 ad f 0) → (∀ i, i < n → ∀ y, y < 6 → cI c6 8 ad 18 (6 * i + y) = kF ((aLg a s).getD (j + i) aE0) y) → LR c6 ad (aEntries a s p (aBase a s + 1 + Int32.ofNat j) n) := by
    intro c6 q1 q2
    refine ⟨fun f hf => ?_, fun f hf => ?_, fun _ => ⟨?_, ?_, fun i hi => ⟨fun y hy => ?_, ?_⟩⟩, fun z => ?_, fun z => ?_⟩
    · rw [q1 f (by simp at hf; omega), c0 f hf]
      simp only [List.mem_cons, List.not_mem_nil, or_false] at hf
      rcases hf with rfl | rfl | rfl | rfl
      · exact l2
      · exact l3
      · exact l4
      · exact l5
    · have hf' : f ∈ lFs 5 := hf
      rw [lF5] at hf'
      simp only [List.mem_cons, List.not_mem_nil, or_false] at hf'
      rcases hf' with rfl | rfl | rfl | rfl
      · rw [q1 7 (by omega), c7]
        rfl
      · rw [q1 8 (by omega), c8]
        rfl
      · rw [q1 9 (by omega), c9]
        rfl
      · rw [q1 10 (by omega), c10]
        rfl
    · rw [q1 17 (by omega), c17, elen]
    · rw [elen]
      exact hn
    · rw [elen] at hi
      rw [q2 i hi y hy, ees, List.getD_eq_getElem?_getD, List.getD_eq_getElem?_getD, List.getElem?_take, if_pos hi, List.getElem?_drop]
    · rw [elen] at hi
      rw [ees, List.getD_eq_getElem?_getD, List.getElem?_take, if_pos hi, List.getElem?_drop]
      have := List.getElem?_eq_getElem (show j + i < (aLg a s).length by omega)
      rw [this]
      exact (h5.2.2.2.2.2.2.2.2.1 s hs).2 _ (List.getElem_mem _)
    · exact absurd z (show ¬ (5 : Int32) = 7 by decide)
    · exact absurd z (show ¬ (5 : Int32) = 11 by decide)
  by_cases q : n = 0
  · subst q
    rw [if_pos (by decide)]
    exact WP_some (RC_fin h5 (fin c5 (fun _ _ => rfl) (fun i hi => by omega)))
  · rw [if_neg (fun z => by
      have := c0_le.mp z
      rw [Int32.le_iff_toInt_le, Int32.toInt_ofNat_of_lt (by omega), i_0] at this
      omega)]
    unfold k_Log_at k_Log_at_b0
    rw [e55]
    refine WP_b ?_
    have ea := at_i (x := aBase a s + 1 + Int32.ofNat j) (b := aBase a s) (i := j) rfl 0
    rw [show Int32.ofNat 0 = 0 from rfl, Int32.add_zero, Nat.add_zero] at ea
    rw [show aS a 55 s = aBase a s from rfl, ea, show Int32.ofNat n * 6 = Int32.ofNat (n * 6) from i_mc (s := 6)]
    refine WP_eq (ccpy_n (s := 6 * j) (t := 0) (n := n * 6) rfl rfl rfl (show 6 * j + n * 6 ≤ 1800 by omega) (show 0 + n * 6 ≤ 36 by omega) (by omega) (by omega)) (WP_some (RC_fin (RC_A8 h5) (fin _ (fun f hf => if_neg (fun z => by omega)) (fun i hi y hy => ?_))))
    have e6 : cI (csA c5 8 ad 18 (fun w => if 0 ≤ w ∧ w < 0 + n * 6 then cI c5 9 s 1 (6 * j + (w - 0)) else cI c5 8 ad 18 w)) 8 ad 18 (6 * i + y) = if 0 ≤ 6 * i + y ∧ 6 * i + y < 0 + n * 6 then cI c5 9 s 1 (6 * j + (6 * i + y - 0)) else cI c5 8 ad 18 (6 * i + y) := if_pos ⟨rfl, rfl, rfl⟩
    rw [e6, if_pos (by omega), show 6 * j + (6 * i + y - 0) = 6 * (j + i) + y by omega]
    exact hlg (j + i) (by omega) y hy
