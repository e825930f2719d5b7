/-! a new letter, letters written -/
theorem csN_S {c : CS} {cl i f : Nat} (h : cl ≠ 8 ∨ i ≠ (cT c).1) : Sm c (csN c) cl i f := ⟨fun j => if_neg (fun z => h.elim (fun y => y z.1) (fun y => y z.2)), fun _ => rfl, rfl, rfl⟩
def D8 : List Nat := [256, 257, 258, 259, 260, 261, 262, 263, 264, 265, 266, 267, 268, 269, 270, 271, 272, 273, 274, 275, 276, 277, 278, 279, 280, 281, 282, 283, 284, 285, 286, 287]
theorem D8_m : ∀ f, f < 32 → 32 * 8 + f ∈ D8 := by decide
theorem Ck_8 {c c' : CS} {s : Nat} (h : ∀ cl i f, cl ≠ 8 → Sm c c' cl i f) : Ck D8 s c c' := by
  intro cl i f hf z
  by_cases q : cl = 8
  · exfalso
    subst q
    rcases z with z | ⟨z, _⟩
    · exact z (D8_m f hf)
    · cases z
  · exact h cl i f q
/-- a letter is made -/
theorem K_csN {c : CS} {a : AA} {H : List (Nat × Option AL)} {U : Nat → Int32} {N : Nat × Nat} (h : RC c a ((H, U), N)) (hs : cS c 14 0 16 = []) (hH : H.length ≤ 6) : RC (csN c) a ((((cT c).1, none) :: H, U), N) := by
  have hF : Ck D8 0 c (csN c) := Ck_8 (fun cl i f q => csN_S (Or.inl q))
  obtain ⟨y1, y2, y3, y4, y5, y6, y7⟩ := id h.2.2.2.2.2.2.2.2.2.2.2.2.2.2.2.2.2.2.2.1
  have h0 : nC c H (cT c).1 = 0 := by
    rcases Nat.eq_zero_or_pos (nC c H (cT c).1) with q | q
    · exact q
    · exact absurd ((y1 _).2 q) (Nat.lt_irrefl _)
  have hn : ∀ x, nC (csN c) (((cT c).1, none) :: H) x = nC c H x + if (cT c).1 = x then 1 else 0 := by
    intro x
    show (cS c 14 0 15).count x + (cS c 14 0 16).count x + sumN (fun s => (cS c 13 s 7).count x) 7 + _ = _
    rw [cnt_H]
    unfold nC
    omega
  have hmem : ∀ x, 0 < nC c H x → x ≠ (cT c).1 := by
    intro x hx e
    rw [e, h0] at hx
    exact absurd hx (Nat.lt_irrefl _)
  have hl : KLt (csN c) a (((cT c).1, none) :: H) := by
    refine ⟨fun x => ⟨?_, fun z => ?_⟩, ?_, fun s hs' => ?_, fun x hx l hl => ?_, y5, y6, y7⟩
    · rw [hn]
      by_cases q : (cT c).1 = x
      · rw [if_pos q, ← q, h0]
        omega
      · rw [if_neg q]
        exact (y1 x).1
    · rw [hn] at z
      show x < (cT c).1 + 3
      by_cases q : (cT c).1 = x
      · omega
      · rw [if_neg q] at z
        have := (y1 x).2 z
        omega
    · refine F2_mono (fun x hx p hp => LRp_fr (fun f _ => csN_S (Or.inr (hmem x ?_))) hp) y2
      have : 0 < (cS c 14 0 15).count x := List.count_pos_iff.mpr hx
      unfold nC
      omega
    · refine F2_mono (fun x hx p hp => LR_fr (fun f _ => csN_S (Or.inr (hmem x ?_))) hp) (y3 s hs')
      have h3 : 0 < (cS c 13 s 7).count x := List.count_pos_iff.mpr hx
      have h4 := sumN_upd (f := fun s => (cS c 13 s 7).count x) (g := fun t => if t = s then 0 else (cS c 13 t 7).count x) 7 hs' (fun i _ hne => by rw [if_neg hne])
      rw [if_pos rfl] at h4
      unfold nC
      omega
    · rcases List.mem_cons.mp hx with rfl | hx
      · cases hl
      · refine LR_fr (fun f _ => csN_S (Or.inr (hmem x.1 ?_))) (y4 x hx l hl)
        have : 0 < (H.map Prod.fst).count x.1 := List.count_pos_iff.mpr (List.mem_map.mpr ⟨_, hx, rfl⟩)
        unfold nC
        omega
  have hr : KRm (csN c) ((((cT c).1, none) :: H, U), N) := by
    obtain ⟨z1, z2, z3, z4⟩ := h.2.2.2.2.2.2.2.2.2.2.2.2.2.2.2.2.2.2.2.2.1
    have e : nL (csN c) (((cT c).1, none) :: H) = nL c H + 1 := by
      show (cS c 14 0 15).length + (cS c 14 0 16).length + sumN (fun s => (cS c 13 s 7).length) 7 + (H.length + 1) = _
      unfold nL
      omega
    have g : ∀ w, gA w (csN c) = gA w c := fun w => rfl
    have b : sumN (fun s => (cS c 13 s 7).length) 7 ≤ sumN (fun _ => 32) 7 := sumN_le 7 (fun s hs' => y6 s hs')
    have b2 : sumN (fun _ => 32) 7 = 224 := rfl
    refine ⟨?_, ?_, ?_, z4⟩
    · show 16 * ((cT c).1 + 3) ≤ 16 * N.1 + 48 * nL (csN c) (((cT c).1, none) :: H) + gA gw1 (csN c)
      rw [e, g]
      have z1' : 16 * (cT c).1 ≤ 16 * N.1 + 48 * nL c H + gA gw1 c := z1
      omega
    · show (cT c).2 + 256 ≤ N.2 + 256 * nL (csN c) (((cT c).1, none) :: H) + gA gw2 (csN c)
      rw [e, g]
      have z2' : (cT c).2 ≤ N.2 + 256 * nL c H + gA gw2 c := z2
      omega
    · show nL (csN c) (((cT c).1, none) :: H) ≤ 360
      rw [e]
      unfold nL
      rw [hs, List.length_nil]
      omega
  exact ⟨KSc_fr hF (by decide) h.1, fun s hs hu => KFr_fr hF (by decide) (h.2.1 s hs hu), fun s hs => KHd_fr hF (by decide) (h.2.2.1 s hs), fun s hs hr => KLd_fr hF (by decide) (h.2.2.2.1 s hs hr), fun s hs hu => KRq_fr hF (by decide) (h.2.2.2.2.1 s hs hu), KBl_fr hF (by decide) h.2.2.2.2.2.1, KDa_fr hF (by decide) h.2.2.2.2.2.2.1, fun s hs => KLw_fr hF (by decide) (h.2.2.2.2.2.2.2.1 s hs), fun s hs => KG_fr hF (by decide) (h.2.2.2.2.2.2.2.2.1 s hs), fun s hs => KPg_fr hF (by decide) (h.2.2.2.2.2.2.2.2.2.1 s hs), fun s hs => KCh_fr hF (by decide) (h.2.2.2.2.2.2.2.2.2.2.1 s hs), fun s hs => KMc_fr hF (by decide) (h.2.2.2.2.2.2.2.2.2.2.2.1 s hs), fun s hs => KPc_fr hF (by decide) (h.2.2.2.2.2.2.2.2.2.2.2.2.1 s hs), fun k hk => KCl_fr hF (by decide) (h.2.2.2.2.2.2.2.2.2.2.2.2.2.1 k hk), fun k hk => KDn_fr hF (by decide) (h.2.2.2.2.2.2.2.2.2.2.2.2.2.2.1 k hk), KAk_fr hF (by decide) h.2.2.2.2.2.2.2.2.2.2.2.2.2.2.2.1, KFc_fr hF (by decide) h.2.2.2.2.2.2.2.2.2.2.2.2.2.2.2.2.1, fun s hs => KId_fr hF (by decide) (h.2.2.2.2.2.2.2.2.2.2.2.2.2.2.2.2.2.1 s hs), fun k hk => KIc_fr hF (by decide) (h.2.2.2.2.2.2.2.2.2.2.2.2.2.2.2.2.2.2.1 k hk), hl, hr, h.2.2.2.2.2.2.2.2.2.2.2.2.2.2.2.2.2.2.2.2.2.1, h.2.2.2.2.2.2.2.2.2.2.2.2.2.2.2.2.2.2.2.2.2.2⟩
theorem clemp_e {c : CS} {cl i f : Nat} : xc0 .eq (clemp c cl i f) = true ↔ cS c cl i f ≠ [] := by
  unfold clemp
  rw [c0_eq]
  by_cases q : (cS c cl i f).length = 0
  · rw [if_pos q]
    exact ⟨fun z => absurd z (by decide), fun z => absurd (List.eq_nil_of_length_eq_zero q) z⟩
  · rw [if_neg q]
    exact ⟨fun _ z => q (by rw [z]; rfl), fun _ => rfl⟩
/-- the last of a list -/
theorem last_of {l : List Nat} (h : l ≠ []) : ∃ ad, l[l.length - 1]? = some ad := by
  have : l.length - 1 < l.length := by
    cases l with
    | nil => exact absurd rfl h
    | cons x l => simp
  exact ⟨_, List.getElem?_eq_getElem this⟩
theorem nL_w {c : CS} {a : AA} {v : CV} (h : RC c a v) : nL c v.1.1 ≤ 360 := h.2.2.2.2.2.2.2.2.2.2.2.2.2.2.2.2.2.2.2.2.1.2.2.1
theorem sp_len {c : CS} {H : List (Nat × Option AL)} : (cS c 14 0 16).length ≤ nL c H := by
  unfold nL
  omega
/-- the rest of a method with a letter that was taken or made -/
theorem K_blankW {α : Type} {c : CS} {a : AA} {H : List (Nat × Option AL)} {U : Nat → Int32} {N : Nat × Nat} {g : Nat × CS → Option α} {g2 : CS → Option α} {Q : α → Prop} (h : RC c a ((H, U), N)) (hH : H.length ≤ 6)
    (k : ∀ ad c', RC c' a (((ad, none) :: H, U), N) → (∀ x, x ∈ H → x.1 ≠ ad) → cS c' 14 0 15 = cS c 14 0 15 → WP (g (ad, c')) Q) (e : g2 (csN c) = g ((cT c).1, csN c)) : WP (if xc0 .eq (clemp c 14 0 16) = true then (clrem c 14 0 16 ((clsz c 14 0 16) - ((1 : Int32)))).bind g else (some (csN c)).bind g2) Q := by
  have nw : ∀ ad c', RC c' a (((ad, none) :: H, U), N) → ∀ x, x ∈ H → x.1 ≠ ad := by
    intro ad c' h' x hx z
    have h1 := (h'.2.2.2.2.2.2.2.2.2.2.2.2.2.2.2.2.2.2.2.1.1 ad).1
    have h2 : 0 < (H.map Prod.fst).count ad := List.count_pos_iff.mpr (List.mem_map.mpr ⟨x, hx, z⟩)
    unfold nC at h1
    have h3 := cnt_H (ad := ad) (x := ad) (o := none) (H := H)
    rw [if_pos rfl] at h3
    have h4 : (List.map Prod.fst ((ad, none) :: H)).count ad ≤ 1 := by
      show (List.map Prod.fst (((((ad, none) :: H, U), N) : CV).1.1)).count ad ≤ 1
      omega
    omega
  refine WP_if clemp_e (fun q => ?_) (fun q => ?_)
  · obtain ⟨ad, hg⟩ := last_of q
    have hlen := Nat.le_trans (sp_len (c := c) (H := H)) (nL_w h)
    have hp : 1 ≤ (cS c 14 0 16).length := by
      cases hq : cS c 14 0 16 with
      | nil => exact absurd hq q
      | cons x l => simp
    rw [clrem_n (n := (cS c 14 0 16).length - 1) (ad := ad) (by unfold clsz; rw [i_pre hp]) (by omega) hg]
    have h1 := K_take16 h hg
    exact k ad _ h1 (nw ad _ h1) rfl
  · have q' : cS c 14 0 16 = [] := Classical.not_not.mp q
    have h1 := K_csN h q' hH
    show WP (g2 (csN c)) Q
    rw [e]
    exact k _ _ h1 (nw _ _ h1) rfl
theorem K_blank {c : CS} {a : AA} {H : List (Nat × Option AL)} {U : Nat → Int32} {N : Nat × Nat} (h : RC c a ((H, U), N)) (hH : H.length ≤ 6) : WP (k_World_blank c 0) (fun p => RC p.2 a (((p.1, none) :: H, U), N) ∧ (∀ x, x ∈ H → x.1 ≠ p.1) ∧ cS p.2 14 0 15 = cS c 14 0 15) := by
  unfold k_World_blank k_World_blank_b0 k_World_blank_b39
  exact K_blankW h hH (fun ad c' h' hn hw => WP_some ⟨h', hn, hw⟩) rfl
/-- something of a letter in the hand is written -/
theorem RC_8 {c c' : CS} {a : AA} {ad : Nat} {H : List (Nat × Option AL)} {U : Nat → Int32} {N : Nat × Nat} (h : RC c a (((ad, none) :: H, U), N)) (hF : Ck D8 0 c c') (hT : cT c' = cT c) (h8 : ∀ x f, x ≠ ad → Sm c c' 8 x f) : RC c' a (((ad, none) :: H, U), N) := by
  have hl : KLt c' a ((ad, none) :: H) := KLt_s (hF 14 0 15 (by decide) (Or.inl (by decide))).2.2.2 (hF 14 0 16 (by decide) (Or.inl (by decide))).2.2.2 (fun s _ => (hF 13 s 7 (by decide) (Or.inl (by decide))).2.2.2) (by rw [hT]; exact Nat.le_refl _) (fun x f _ hx _ => h8 x f (fun z => hx (by rw [z]; exact List.mem_cons_self))) h.2.2.2.2.2.2.2.2.2.2.2.2.2.2.2.2.2.2.2.1
  exact ⟨KSc_fr hF (by decide) h.1, fun s hs hu => KFr_fr hF (by decide) (h.2.1 s hs hu), fun s hs => KHd_fr hF (by decide) (h.2.2.1 s hs), fun s hs hr => KLd_fr hF (by decide) (h.2.2.2.1 s hs hr), fun s hs hu => KRq_fr hF (by decide) (h.2.2.2.2.1 s hs hu), KBl_fr hF (by decide) h.2.2.2.2.2.1, KDa_fr hF (by decide) h.2.2.2.2.2.2.1, fun s hs => KLw_fr hF (by decide) (h.2.2.2.2.2.2.2.1 s hs), fun s hs => KG_fr hF (by decide) (h.2.2.2.2.2.2.2.2.1 s hs), fun s hs => KPg_fr hF (by decide) (h.2.2.2.2.2.2.2.2.2.1 s hs), fun s hs => KCh_fr hF (by decide) (h.2.2.2.2.2.2.2.2.2.2.1 s hs), fun s hs => KMc_fr hF (by decide) (h.2.2.2.2.2.2.2.2.2.2.2.1 s hs), fun s hs => KPc_fr hF (by decide) (h.2.2.2.2.2.2.2.2.2.2.2.2.1 s hs), fun k hk => KCl_fr hF (by decide) (h.2.2.2.2.2.2.2.2.2.2.2.2.2.1 k hk), fun k hk => KDn_fr hF (by decide) (h.2.2.2.2.2.2.2.2.2.2.2.2.2.2.1 k hk), KAk_fr hF (by decide) h.2.2.2.2.2.2.2.2.2.2.2.2.2.2.2.1, KFc_fr hF (by decide) h.2.2.2.2.2.2.2.2.2.2.2.2.2.2.2.2.1, fun s hs => KId_fr hF (by decide) (h.2.2.2.2.2.2.2.2.2.2.2.2.2.2.2.2.2.1 s hs), fun k hk => KIc_fr hF (by decide) (h.2.2.2.2.2.2.2.2.2.2.2.2.2.2.2.2.2.2.1 k hk), hl, KRm_fr hF hT (by decide) h.2.2.2.2.2.2.2.2.2.2.2.2.2.2.2.2.2.2.2.2.1, h.2.2.2.2.2.2.2.2.2.2.2.2.2.2.2.2.2.2.2.2.2.1, h.2.2.2.2.2.2.2.2.2.2.2.2.2.2.2.2.2.2.2.2.2.2⟩
theorem Ck_I8 {c : CS} {ad f j : Nat} {x : Int32} : Ck D8 0 c (csI c 8 ad f j x) := Ck_8 (fun cl i g q => ⟨fun y => if_neg (fun z => q z.1), fun _ => rfl, rfl, rfl⟩)
theorem RC_I8 {c : CS} {a : AA} {ad f j : Nat} {x : Int32} {H : List (Nat × Option AL)} {U : Nat → Int32} {N : Nat × Nat} (h : RC c a (((ad, none) :: H, U), N)) : RC (csI c 8 ad f j x) a (((ad, none) :: H, U), N) :=
  RC_8 h Ck_I8 rfl (fun y g hy => ⟨fun w => if_neg (fun z => hy z.2.1), fun _ => rfl, rfl, rfl⟩)
theorem RC_A8 {c : CS} {a : AA} {ad f : Nat} {x : Nat → Int32} {H : List (Nat × Option AL)} {U : Nat → Int32} {N : Nat × Nat} (h : RC c a (((ad, none) :: H, U), N)) : RC (csA c 8 ad f x) a (((ad, none) :: H, U), N) :=
  RC_8 h (Ck_8 (fun cl i g q => ⟨fun y => if_neg (fun z => q z.1), fun _ => rfl, rfl, rfl⟩)) rfl (fun y g hy => ⟨fun w => if_neg (fun z => hy z.2.1), fun _ => rfl, rfl, rfl⟩)
/-- a letter is written wholly -/
theorem RC_fin {c : CS} {a : AA} {ad : Nat} {l : AL} {H : List (Nat × Option AL)} {U : Nat → Int32} {N : Nat × Nat} (h : RC c a (((ad, none) :: H, U), N)) (hl : LR c ad l) : RC c a (((ad, some l) :: H, U), N) := by
  have hF : Ck [] 0 c c := Ck_r
  have hk := h.2.2.2.2.2.2.2.2.2.2.2.2.2.2.2.2.2.2.2.1
  have hk2 : KLt c a ((ad, some l) :: H) := ⟨hk.1, hk.2.1, hk.2.2.1, fun x hx l' hl' => by
    rcases List.mem_cons.mp hx with rfl | hx
    · cases hl'
      exact hl
    · exact hk.2.2.2.1 x (List.mem_cons_of_mem _ hx) l' hl', hk.2.2.2.2⟩
  exact ⟨KSc_fr hF (by decide) h.1, fun s hs hu => KFr_fr hF (by decide) (h.2.1 s hs hu), fun s hs => KHd_fr hF (by decide) (h.2.2.1 s hs), fun s hs hr => KLd_fr hF (by decide) (h.2.2.2.1 s hs hr), fun s hs hu => KRq_fr hF (by decide) (h.2.2.2.2.1 s hs hu), KBl_fr hF (by decide) h.2.2.2.2.2.1, KDa_fr hF (by decide) h.2.2.2.2.2.2.1, fun s hs => KLw_fr hF (by decide) (h.2.2.2.2.2.2.2.1 s hs), fun s hs => KG_fr hF (by decide) (h.2.2.2.2.2.2.2.2.1 s hs), fun s hs => KPg_fr hF (by decide) (h.2.2.2.2.2.2.2.2.2.1 s hs), fun s hs => KCh_fr hF (by decide) (h.2.2.2.2.2.2.2.2.2.2.1 s hs), fun s hs => KMc_fr hF (by decide) (h.2.2.2.2.2.2.2.2.2.2.2.1 s hs), fun s hs => KPc_fr hF (by decide) (h.2.2.2.2.2.2.2.2.2.2.2.2.1 s hs), fun k hk => KCl_fr hF (by decide) (h.2.2.2.2.2.2.2.2.2.2.2.2.2.1 k hk), fun k hk => KDn_fr hF (by decide) (h.2.2.2.2.2.2.2.2.2.2.2.2.2.2.1 k hk), KAk_fr hF (by decide) h.2.2.2.2.2.2.2.2.2.2.2.2.2.2.2.1, KFc_fr hF (by decide) h.2.2.2.2.2.2.2.2.2.2.2.2.2.2.2.2.1, fun s hs => KId_fr hF (by decide) (h.2.2.2.2.2.2.2.2.2.2.2.2.2.2.2.2.2.1 s hs), fun k hk => KIc_fr hF (by decide) (h.2.2.2.2.2.2.2.2.2.2.2.2.2.2.2.2.2.2.1 k hk), hk2, h.2.2.2.2.2.2.2.2.2.2.2.2.2.2.2.2.2.2.2.2.1, h.2.2.2.2.2.2.2.2.2.2.2.2.2.2.2.2.2.2.2.2.2.1, h.2.2.2.2.2.2.2.2.2.2.2.2.2.2.2.2.2.2.2.2.2.2⟩
theorem RC_unfin {c : CS} {a : AA} {ad : Nat} {o : Option AL} {H : List (Nat × Option AL)} {U : Nat → Int32} {N : Nat × Nat} (h : RC c a (((ad, o) :: H, U), N)) : RC c a (((ad, none) :: H, U), N) := by
  have hF : Ck [] 0 c c := Ck_r
  have hk := h.2.2.2.2.2.2.2.2.2.2.2.2.2.2.2.2.2.2.2.1
  have hk2 : KLt c a ((ad, none) :: H) := ⟨hk.1, hk.2.1, hk.2.2.1, fun x hx l' hl' => by
    rcases List.mem_cons.mp hx with rfl | hx
    · cases hl'
    · exact hk.2.2.2.1 x (List.mem_cons_of_mem _ hx) l' hl', hk.2.2.2.2⟩
  exact ⟨KSc_fr hF (by decide) h.1, fun s hs hu => KFr_fr hF (by decide) (h.2.1 s hs hu), fun s hs => KHd_fr hF (by decide) (h.2.2.1 s hs), fun s hs hr => KLd_fr hF (by decide) (h.2.2.2.1 s hs hr), fun s hs hu => KRq_fr hF (by decide) (h.2.2.2.2.1 s hs hu), KBl_fr hF (by decide) h.2.2.2.2.2.1, KDa_fr hF (by decide) h.2.2.2.2.2.2.1, fun s hs => KLw_fr hF (by decide) (h.2.2.2.2.2.2.2.1 s hs), fun s hs => KG_fr hF (by decide) (h.2.2.2.2.2.2.2.2.1 s hs), fun s hs => KPg_fr hF (by decide) (h.2.2.2.2.2.2.2.2.2.1 s hs), fun s hs => KCh_fr hF (by decide) (h.2.2.2.2.2.2.2.2.2.2.1 s hs), fun s hs => KMc_fr hF (by decide) (h.2.2.2.2.2.2.2.2.2.2.2.1 s hs), fun s hs => KPc_fr hF (by decide) (h.2.2.2.2.2.2.2.2.2.2.2.2.1 s hs), fun k hk => KCl_fr hF (by decide) (h.2.2.2.2.2.2.2.2.2.2.2.2.2.1 k hk), fun k hk => KDn_fr hF (by decide) (h.2.2.2.2.2.2.2.2.2.2.2.2.2.2.1 k hk), KAk_fr hF (by decide) h.2.2.2.2.2.2.2.2.2.2.2.2.2.2.2.1, KFc_fr hF (by decide) h.2.2.2.2.2.2.2.2.2.2.2.2.2.2.2.2.1, fun s hs => KId_fr hF (by decide) (h.2.2.2.2.2.2.2.2.2.2.2.2.2.2.2.2.2.1 s hs), fun k hk => KIc_fr hF (by decide) (h.2.2.2.2.2.2.2.2.2.2.2.2.2.2.2.2.2.2.1 k hk), hk2, h.2.2.2.2.2.2.2.2.2.2.2.2.2.2.2.2.2.2.2.2.1, h.2.2.2.2.2.2.2.2.2.2.2.2.2.2.2.2.2.2.2.2.2.1, h.2.2.2.2.2.2.2.2.2.2.2.2.2.2.2.2.2.2.2.2.2.2⟩
theorem RC_hand {c : CS} {a : AA} {v : CV} {ad : Nat} {l : AL} (h : RC c a v) (hm : (ad, some l) ∈ v.1.1) : LR c ad l := h.2.2.2.2.2.2.2.2.2.2.2.2.2.2.2.2.2.2.2.1.2.2.2.1 _ hm l rfl
/-- the first fields of a letter are another one's -/
def CP (c : CS) (ad b k : Nat) (c' : CS) : Prop := (∀ x f, x ≠ ad → Sm c c' 8 x f) ∧ ∀ f, 2 ≤ f → f < k → ∀ j, (f < 18 → j = 0) → (f = 18 → j < 36) → (f = 19 → j < 200) → cI c' 8 ad f j = cI c 8 b f j
theorem CP_0 {c : CS} {ad b : Nat} : CP c ad b 2 c := ⟨fun _ _ _ => Sm_r, fun f h1 h2 => by omega⟩
theorem CP_s {c c' : CS} {ad b k : Nat} (hne : b ≠ ad) (h : CP c ad b k c') (hk : k < 18) : CP c ad b (k + 1) (csI c' 8 ad k 0 (cI c' 8 b k 0)) := by
  refine ⟨fun x f hx => Sm_t (h.1 x f hx) ⟨fun w => if_neg (fun z => hx z.2.1), fun _ => rfl, rfl, rfl⟩, fun f h1 h2 j h3 h4 h5 => ?_⟩
  by_cases q : f = k
  · subst q
    rw [h3 hk, csI_e]
    exact (h.1 b f hne).1 0
  · rw [csI_f q]
    exact h.2 f h1 (by omega) j h3 h4 h5
theorem CP_a {c c' : CS} {ad b k n : Nat} (hne : b ≠ ad) (h : CP c ad b k c') (hk : 18 ≤ k) (hn : (k = 18 → n = 36) ∧ (k = 19 → n = 200)) (h19 : k ≤ 19) : CP c ad b (k + 1) (csA c' 8 ad k (fun w => if 0 ≤ w ∧ w < 0 + n then cI c' 8 b k (0 + (w - 0)) else cI c' 8 ad k w)) := by
  refine ⟨fun x f hx => Sm_t (h.1 x f hx) ⟨fun w => if_neg (fun z => hx z.2.1), fun _ => rfl, rfl, rfl⟩, fun f h1 h2 j h3 h4 h5 => ?_⟩
  by_cases q : f = k
  · subst q
    have e : cI (csA c' 8 ad f (fun w => if 0 ≤ w ∧ w < 0 + n then cI c' 8 b f (0 + (w - 0)) else cI c' 8 ad f w)) 8 ad f j = if 0 ≤ j ∧ j < 0 + n then cI c' 8 b f (0 + (j - 0)) else cI c' 8 ad f j := if_pos ⟨rfl, rfl, rfl⟩
    rw [e, if_pos (by omega), Nat.zero_add, Nat.sub_zero]
    exact (h.1 b f hne).1 j
  · have e : cI (csA c' 8 ad k (fun w => if 0 ≤ w ∧ w < 0 + n then cI c' 8 b k (0 + (w - 0)) else cI c' 8 ad k w)) 8 ad f j = cI c' 8 ad f j := if_neg (fun z => q z.2.2)
    rw [e]
    exact h.2 f h1 (by omega) j h3 h4 h5
theorem CP_LR {c c' : CS} {ad b : Nat} {l : AL} (h : CP c ad b 20 c') (y : LR c b l) : LR c' ad l := by
  obtain ⟨y1, y2, y3, y4, y5⟩ := y
  have hl : ∀ k, ∀ j ∈ lFs k, j ∈ [6, 7, 8, 9, 10, 11, 12, 13, 14, 15, 16] := by
    intro k
    unfold lFs
    repeat' split
    all_goals decide
  have e : ∀ f, 2 ≤ f → f < 18 → cI c' 8 ad f 0 = cI c 8 b f 0 := fun f h1 h2 => h.2 f h1 (by omega) 0 (fun _ => rfl) (fun _ => by omega) (fun _ => by omega)
  have e18 : ∀ j, j < 36 → cI c' 8 ad 18 j = cI c 8 b 18 j := fun j hj => h.2 18 (by omega) (by omega) j (fun z => by omega) (fun _ => hj) (fun z => by omega)
  have e19 : ∀ j, j < 200 → cI c' 8 ad 19 j = cI c 8 b 19 j := fun j hj => h.2 19 (by omega) (by omega) j (fun z => by omega) (fun z => by omega) (fun _ => hj)
  refine ⟨fun j hj => ?_, fun j hj => ?_, fun z => ?_, fun z => ?_, fun z => ?_⟩
  · rw [e j (by simp at hj; omega) (by simp at hj; omega)]
    exact y1 j hj
  · have := hl _ j hj
    rw [e j (by simp at this; omega) (by simp at this; omega)]
    exact y2 j hj
  · rw [e 17 (by omega) (by omega)]
    obtain ⟨x1, x2, x3⟩ := y3 z
    exact ⟨x1, x2, fun i hi => ⟨fun j hj => by rw [e18 _ (by omega)]; exact (x3 i hi).1 j hj, (x3 i hi).2⟩⟩
  · obtain ⟨n, o, x1, x2, x3, x4, x5, x6, x7⟩ := y4 z
    exact ⟨n, o, x1, x2, by rw [e 17 (by omega) (by omega)]; exact x3, x4, x5, x6, fun i hi => by rw [e19 _ (by omega)]; exact x7 i hi⟩
  · rw [e 17 (by omega) (by omega)]
    obtain ⟨x0, x1, x2, x3⟩ := y5 z
    exact ⟨fun w => (e 7 (by omega) (by omega)).trans (x0 w), x1, x2, fun i hi => by rw [e19 _ (by omega)]; exact x3 i hi⟩
/-- a letter becomes what another one is -/
theorem K_copy {c : CS} {a : AA} {ad b : Nat} {l : AL} {H : List (Nat × Option AL)} {U : Nat → Int32} {N : Nat × Nat} (h : RC c a (((ad, none) :: H, U), N)) (hl : LR c b l) (hne : b ≠ ad) : WP (k_Letter_copyFrom c ad b) (fun c' => RC c' a (((ad, some l) :: H, U), N) ∧ ∀ x f, x ≠ ad → Sm c c' 8 x f) := by
  unfold k_Letter_copyFrom k_Letter_copyFrom_b0
  have p0 : CP c ad b 2 c := CP_0
  have st : ∀ {k : Nat} {c' : CS} {α : Type} {g : CS → Option α} {Q : α → Prop}, k < 18 → RC c' a (((ad, none) :: H, U), N) → CP c ad b k c' → (∀ c2, RC c2 a (((ad, none) :: H, U), N) → CP c ad b (k + 1) c2 → WP (g c2) Q) → WP ((some (csI c' 8 ad k 0 (cI c' 8 b k 0))).bind g) Q := fun hk h' p kk => kk _ (RC_I8 h') (CP_s hne p hk)
  refine st (by decide) h p0 (fun c1 h1 p1 => ?_)
  refine st (by decide) h1 p1 (fun c2 h2 p2 => ?_)
  refine st (by decide) h2 p2 (fun c3 h3 p3 => ?_)
  refine st (by decide) h3 p3 (fun c4 h4 p4 => ?_)
  refine st (by decide) h4 p4 (fun c5 h5 p5 => ?_)
  refine st (by decide) h5 p5 (fun c6 h6 p6 => ?_)
  refine st (by decide) h6 p6 (fun c7 h7 p7 => ?_)
  refine st (by decide) h7 p7 (fun c8 h8 p8 => ?_)
  refine st (by decide) h8 p8 (fun c9 h9 p9 => ?_)
  refine st (by decide) h9 p9 (fun c10 h10 p10 => ?_)
  refine st (by decide) h10 p10 (fun c11 h11 p11 => ?_)
  refine st (by decide) h11 p11 (fun c12 h12 p12 => ?_)
  refine st (by decide) h12 p12 (fun c13 h13 p13 => ?_)
  refine st (by decide) h13 p13 (fun c14 h14 p14 => ?_)
  refine st (by decide) h14 p14 (fun c15 h15 p15 => ?_)
  refine st (by decide) h15 p15 (fun c16 h16 p16 => ?_)
  refine WP_eq (ccpy_n (s := 0) (t := 0) (n := 36) rfl rfl rfl (Nat.le_refl _) (Nat.le_refl _) (by decide) (by decide)) ?_
  have p17 := CP_a (n := 36) hne p16 (by decide) ⟨fun _ => rfl, fun z => by omega⟩ (by decide)
  refine WP_eq (ccpy_n (s := 0) (t := 0) (n := 200) rfl rfl rfl (Nat.le_refl _) (Nat.le_refl _) (by decide) (by decide)) ?_
  have p18 := CP_a (n := 200) hne p17 (by decide) ⟨fun z => by omega, fun _ => rfl⟩ (by decide)
  exact WP_some ⟨RC_fin (RC_A8 (RC_A8 h16)) (CP_LR p18 hl), p18.1⟩
