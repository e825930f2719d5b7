/-! a request begins to wait -/
theorem slot_31 {b : Nat} : Int32.ofNat b &&& 31 = Int32.ofNat (b % 32) := i_and 5 (by decide)
theorem LR_10 {c : CS} {ad : Nat} {l : AL} (h : LR c ad l) (hk : l.1 4 = 10) : cI c 8 ad 2 0 = l.1 2 ∧ cI c 8 ad 5 0 = l.1 5 ∧ cI c 8 ad 16 0 = l.1 16 := by
  refine ⟨h.1 2 (by decide), h.1 5 (by decide), h.2.1 16 ?_⟩
  rw [hk, lF10]
  decide
theorem K_hold {c : CS} {a : AA} {s ad : Nat} {l : AL} {number round : Int32} {H : List (Nat × Option AL)} {U : Nat → Int32} {N : Nat × Nat} (h : RC c a (((ad, some l) :: H, U), N)) (hs : s < 7) (hu : aS a 52 s = 1) (hk : l.1 4 = 10) (hmx : (aS a 151 s).toInt < 2147483000) : WP (k_Requests_begin c s ad number (aS a 53 s) round) (fun c' => RC c' (aHold a s l number round) (((ad, some l) :: H, U), N)) := by
  obtain ⟨b, b1, b2, b3, b4, b5, b6⟩ := h.2.2.2.2.1 s hs hu
  have hb : b < 2147483000 := by
    rw [b1, Int32.toInt_ofNat_of_lt b2] at hmx
    omega
  have hw : b % 32 < 32 := Nat.mod_lt _ (by omega)
  obtain ⟨k2, k5, k16⟩ := LR_10 (RC_hand h List.mem_cons_self) hk
  have e7 : cI c 12 s 7 0 = Int32.ofNat b := (K_r h (F := 151) (cl := 12) (f := 7) (by decide) hs).trans b1
  unfold k_Requests_begin k_Requests_begin_b0 k_Requests_slotOf k_Requests_slotOf_b0
  rw [e7, slot_31]
  refine WP_b (WP_b ?_)
  rw [i_s]
  refine WP_eq (crd_n rfl (show b % 32 < 32 from hw) (by omega)) ?_
  rw [csI_f (by decide), b5 _ hw]
  -- those that stay
  have stay : ∀ x ∈ (aRq a s).filter (fun x => !decide (x 0 = aS a 151 s - 32)), x ∈ aRq a s ∧ b + 1 ≤ qN x + 32 := by
    intro x hx
    obtain ⟨x1, x2⟩ := List.mem_filter.mp hx
    obtain ⟨y1, y2, y3, _⟩ := b4 x x1
    refine ⟨x1, ?_⟩
    have : qN x + 32 ≠ b := fun z => by
      have : x 0 = aS a 151 s - 32 := by
        rw [b1, y1, ← z, show (32 : Int32) = Int32.ofNat 32 from rfl, i_subn (by omega), Nat.add_sub_cancel]
      rw [this] at x2
      simp at x2
    omega
  have keep : ∀ x ∈ aRq a s, qN x % 32 ≠ b % 32 → x ∈ (aRq a s).filter (fun x => !decide (x 0 = aS a 151 s - 32)) := by
    intro x hx hne
    refine List.mem_filter.mpr ⟨hx, ?_⟩
    obtain ⟨y1, y2, y3, _⟩ := b4 x hx
    have : ¬ x 0 = aS a 151 s - 32 := fun z => hne (by
      have e : x 0 + 32 = aS a 151 s := by rw [z, Int32.sub_add_cancel]
      rw [y1, b1, show (32 : Int32) = Int32.ofNat 32 from rfl, i_ad] at e
      have := congrArg Int32.toInt e
      rw [Int32.toInt_ofNat_of_lt (by omega), Int32.toInt_ofNat_of_lt (by omega)] at this
      omega)
    rw [decide_eq_false this]
    rfl
  have slot2 : ∀ x ∈ (aRq a s).filter (fun x => !decide (x 0 = aS a 151 s - 32)), qN x % 32 ≠ b % 32 := by
    intro x hx
    obtain ⟨x1, x2⟩ := stay x hx
    obtain ⟨y1, y2, y3, _⟩ := b4 x x1
    omega
  -- the end of it
  have fin : ∀ c2, PX 12 s [7, 8] c c2 → cI c2 12 s 7 0 = Int32.ofNat (b + 1) → cI c2 12 s 8 0 = Int32.ofNat (((aRq a s).filter (fun x => !decide (x 0 = aS a 151 s - 32))).length + 1) → WP (k_Requests_begin_b39 c2 s ad number (aS a 53 s) round (Int32.ofNat (b % 32))) (fun c' => RC c' (aHold a s l number round) (((ad, some l) :: H, U), N)) := by
    intro c2 P e7' e8'
    have e8l : ∀ g, cI c2 8 ad g 0 = cI c 8 ad g 0 := fun g => (P.1 8 ad g (fun z => absurd z.1 (by decide))).1 0
    unfold k_Requests_begin_b39
    rw [show (1 : Int32) &&& 1 = 1 by decide]
    refine WP_eq (cwr_n rfl (show b % 32 < 32 from hw) (by omega)) ?_
    rw [csI_cl (by decide), e8l, k2]
    refine WP_eq (cwr_n rfl (show b % 32 < 32 from hw) (by omega)) ?_
    rw [csI_cl (by decide), csI_cl (by decide), e8l, k5]
    refine WP_eq (cwr_n rfl (show b % 32 < 32 from hw) (by omega)) ?_
    rw [csI_cl (by decide), csI_cl (by decide), csI_cl (by decide), e8l, k16]
    refine WP_eq (cwr_n rfl (show b % 32 < 32 from hw) (by omega)) (WP_eq (cwr_n rfl (show b % 32 < 32 from hw) (by omega)) (WP_eq (cwr_n rfl (show b % 32 < 32 from hw) (by omega)) (WP_eq (cwr_n rfl (show b % 32 < 32 from hw) (by omega)) (WP_some ?_))))
    have Q : PX 12 s [0, 1, 2, 3, 4, 5, 6] c2 (csI (csI (csI (csI (csI (csI (csI c2 12 s 0 (b % 32) 1) 12 s 1 (b % 32) (l.1 2)) 12 s 2 (b % 32) (l.1 5)) 12 s 3 (b % 32) (l.1 16)) 12 s 4 (b % 32) number) 12 s 5 (b % 32) (aS a 53 s)) 12 s 6 (b % 32) round) := PX_t (PX_t (PX_t (PX_t (PX_t (PX_t (PX_I (by decide)) (PX_I (by decide))) (PX_I (by decide))) (PX_I (by decide))) (PX_I (by decide))) (PX_I (by decide))) (PX_I (by decide))
    have v0 : ∀ j, cI (csI (csI (csI (csI (csI (csI (csI c2 12 s 0 (b % 32) 1) 12 s 1 (b % 32) (l.1 2)) 12 s 2 (b % 32) (l.1 5)) 12 s 3 (b % 32) (l.1 16)) 12 s 4 (b % 32) number) 12 s 5 (b % 32) (aS a 53 s)) 12 s 6 (b % 32) round) 12 s 0 j = if j = b % 32 then 1 else cI c2 12 s 0 j := by
      intro j
      rw [csI_f (by decide), csI_f (by decide), csI_f (by decide), csI_f (by decide), csI_f (by decide), csI_f (by decide)]
      by_cases z : j = b % 32
      · rw [if_pos z, z, csI_e]
      · rw [if_neg z, csI_j z]
    have vo : ∀ f j, j ≠ b % 32 → cI (csI (csI (csI (csI (csI (csI (csI c2 12 s 0 (b % 32) 1) 12 s 1 (b % 32) (l.1 2)) 12 s 2 (b % 32) (l.1 5)) 12 s 3 (b % 32) (l.1 16)) 12 s 4 (b % 32) number) 12 s 5 (b % 32) (aS a 53 s)) 12 s 6 (b % 32) round) 12 s f j = cI c2 12 s f j := fun f j hj => (csI_j hj).trans ((csI_j hj).trans ((csI_j hj).trans ((csI_j hj).trans ((csI_j hj).trans ((csI_j hj).trans (csI_j hj))))))
    have w6 : cI (csI (csI (csI (csI (csI (csI (csI c2 12 s 0 (b % 32) 1) 12 s 1 (b % 32) (l.1 2)) 12 s 2 (b % 32) (l.1 5)) 12 s 3 (b % 32) (l.1 16)) 12 s 4 (b % 32) number) 12 s 5 (b % 32) (aS a 53 s)) 12 s 6 (b % 32) round) 12 s 6 (b % 32) = round := csI_e
    have w5 : cI (csI (csI (csI (csI (csI (csI (csI c2 12 s 0 (b % 32) 1) 12 s 1 (b % 32) (l.1 2)) 12 s 2 (b % 32) (l.1 5)) 12 s 3 (b % 32) (l.1 16)) 12 s 4 (b % 32) number) 12 s 5 (b % 32) (aS a 53 s)) 12 s 6 (b % 32) round) 12 s 5 (b % 32) = aS a 53 s := (csI_f (by decide)).trans csI_e
    have w4 : cI (csI (csI (csI (csI (csI (csI (csI c2 12 s 0 (b % 32) 1) 12 s 1 (b % 32) (l.1 2)) 12 s 2 (b % 32) (l.1 5)) 12 s 3 (b % 32) (l.1 16)) 12 s 4 (b % 32) number) 12 s 5 (b % 32) (aS a 53 s)) 12 s 6 (b % 32) round) 12 s 4 (b % 32) = number := (csI_f (by decide)).trans ((csI_f (by decide)).trans csI_e)
    have w3 : cI (csI (csI (csI (csI (csI (csI (csI c2 12 s 0 (b % 32) 1) 12 s 1 (b % 32) (l.1 2)) 12 s 2 (b % 32) (l.1 5)) 12 s 3 (b % 32) (l.1 16)) 12 s 4 (b % 32) number) 12 s 5 (b % 32) (aS a 53 s)) 12 s 6 (b % 32) round) 12 s 3 (b % 32) = l.1 16 := (csI_f (by decide)).trans ((csI_f (by decide)).trans ((csI_f (by decide)).trans csI_e))
    have w2 : cI (csI (csI (csI (csI (csI (csI (csI c2 12 s 0 (b % 32) 1) 12 s 1 (b % 32) (l.1 2)) 12 s 2 (b % 32) (l.1 5)) 12 s 3 (b % 32) (l.1 16)) 12 s 4 (b % 32) number) 12 s 5 (b % 32) (aS a 53 s)) 12 s 6 (b % 32) round) 12 s 2 (b % 32) = l.1 5 := (csI_f (by decide)).trans ((csI_f (by decide)).trans ((csI_f (by decide)).trans ((csI_f (by decide)).trans csI_e)))
    have w1 : cI (csI (csI (csI (csI (csI (csI (csI c2 12 s 0 (b % 32) 1) 12 s 1 (b % 32) (l.1 2)) 12 s 2 (b % 32) (l.1 5)) 12 s 3 (b % 32) (l.1 16)) 12 s 4 (b % 32) number) 12 s 5 (b % 32) (aS a 53 s)) 12 s 6 (b % 32) round) 12 s 1 (b % 32) = l.1 2 := (csI_f (by decide)).trans ((csI_f (by decide)).trans ((csI_f (by decide)).trans ((csI_f (by decide)).trans ((csI_f (by decide)).trans csI_e))))
    generalize csI (csI (csI (csI (csI (csI (csI c2 12 s 0 (b % 32) 1) 12 s 1 (b % 32) (l.1 2)) 12 s 2 (b % 32) (l.1 5)) 12 s 3 (b % 32) (l.1 16)) 12 s 4 (b % 32) number) 12 s 5 (b % 32) (aS a 53 s)) 12 s 6 (b % 32) round = c3 at Q v0 vo w1 w2 w3 w4 w5 w6
    have hF : Ck [391, 392, 384, 385, 386, 387, 388, 389, 390] s c c3 := Ck_t (PX_k (D := [391, 392]) P (Or.inr rfl) (by decide)) (PX_k (D := [384, 385, 386, 387, 388, 389, 390]) Q (Or.inr rfl) (by decide))
    have hT : cT c3 = cT c := Q.2.1.trans P.2.1
    have c3o : ∀ f j, f = 7 ∨ f = 8 → cI c3 12 s f j = cI c2 12 s f j := fun f j hf => (Q.1 12 s f (fun z => by have := z.2.2; simp only [List.mem_cons, List.not_mem_nil, or_false] at this; omega)).1 j
    have c2o : ∀ f j, f ≠ 7 → f ≠ 8 → cI c2 12 s f j = cI c 12 s f j := fun f j n1 n2 => (P.1 12 s f (fun z => by have := z.2.2; simp only [List.mem_cons, List.not_mem_nil, or_false] at this; omega)).1 j
    have e151 : aS a 151 s + 1 = Int32.ofNat (b + 1) := by rw [b1, i_s]
    have eH : aHold a s l number round = aI (aRqS a s ((aRq a s).filter (fun x => !decide (x 0 = aS a 151 s - 32)) ++ [fun j => if j = 0 then aS a 151 s else if j = 1 then l.1 2 else if j = 2 then l.1 5 else if j = 3 then l.1 16 else if j = 4 then number else if j = 5 then aS a 53 s else round])) 151 s (aS a 151 s + 1) := rfl
    rw [eH]
    have qq : ∃ q : AQ, q = (fun j => if j = 0 then aS a 151 s else if j = 1 then l.1 2 else if j = 2 then l.1 5 else if j = 3 then l.1 16 else if j = 4 then number else if j = 5 then aS a 53 s else round) ∧ q 0 = Int32.ofNat b ∧ q 1 = l.1 2 ∧ q 2 = l.1 5 ∧ q 3 = l.1 16 ∧ q 4 = number ∧ q 5 = aS a 53 s ∧ q 6 = round := ⟨_, rfl, b1, rfl, rfl, rfl, rfl, rfl, rfl⟩
    obtain ⟨q, eq, q0, q1, q2, q3, q4, q5, q6⟩ := qq
    rw [← eq]
    have qn : qN q = b := by
      unfold qN
      rw [q0, i_cl b2]
    have e : ∀ g, g ∉ [151] → ∀ j, aS (aI (aRqS a s ((aRq a s).filter (fun x => !decide (x 0 = aS a 151 s - 32)) ++ [q])) 151 s (aS a 151 s + 1)) g j = aS a g j := fun g hg j => aS_If (fun z => hg (by rw [z]; exact List.mem_cons_self))
    have e5 : ∀ t, aS (aI (aRqS a s ((aRq a s).filter (fun x => !decide (x 0 = aS a 151 s - 32)) ++ [q])) 151 s (aS a 151 s + 1)) 151 t = if t = s then Int32.ofNat (b + 1) else aS a 151 t := by
      intro t
      rw [aS_I, e151]
      by_cases z : t = s
      · rw [if_pos ⟨rfl, z⟩, if_pos z]
      · rw [if_neg (fun y => z y.2), if_neg z]
        rfl
    have esc : KSc c3 (aI (aRqS a s ((aRq a s).filter (fun x => !decide (x 0 = aS a 151 s - 32)) ++ [q])) 151 s (aS a 151 s + 1)) := by
      intro y hy i hi
      by_cases z : y = (151, 12, 7)
      · subst z
        show cI c3 12 i 7 0 = _
        rw [e5]
        by_cases k : i = s
        · rw [if_pos k, k, c3o 7 0 (Or.inl rfl), e7']
        · rw [if_neg k, (hF 12 i 7 (by decide) (Or.inr ⟨rfl, k⟩)).1 0]
          exact h.1 (151, 12, 7) hy i hi
      · obtain ⟨y1, y2⟩ := (by decide : ∀ y ∈ sT, y ≠ (151, 12, 7) → y.1 ∉ [151] ∧ 32 * y.2.1 + y.2.2 ∉ [391, 392, 384, 385, 386, 387, 388, 389, 390] ∧ y.2.2 < 32) y hy z
        rw [e _ y1, (hF y.2.1 i y.2.2 y2.2 (Or.inl y2.1)).1 0]
        exact h.1 y hy i hi
    have hrq : ∀ t, t < 7 → aS (aI (aRqS a s ((aRq a s).filter (fun x => !decide (x 0 = aS a 151 s - 32)) ++ [q])) 151 s (aS a 151 s + 1)) 52 t = 1 → KRq c3 t (aS (aI (aRqS a s ((aRq a s).filter (fun x => !decide (x 0 = aS a 151 s - 32)) ++ [q])) 151 s (aS a 151 s + 1)) 151 t) (aRq (aI (aRqS a s ((aRq a s).filter (fun x => !decide (x 0 = aS a 151 s - 32)) ++ [q])) 151 s (aS a 151 s + 1)) t) := by
      intro t ht hut
      have er : aRq (aI (aRqS a s ((aRq a s).filter (fun x => !decide (x 0 = aS a 151 s - 32)) ++ [q])) 151 s (aS a 151 s + 1)) t = if t = s then (aRq a s).filter (fun x => !decide (x 0 = aS a 151 s - 32)) ++ [q] else aRq a t := rfl
      rw [er, e5]
      by_cases z : t = s
      · subst z
        rw [if_pos rfl, if_pos rfl]
        refine ⟨b + 1, rfl, by omega, ?_, fun x hx => ?_, fun u hu2 => ?_, ?_⟩
        · rw [List.map_append, List.pairwise_append]
          refine ⟨b3.sublist (List.filter_sublist.map _), List.pairwise_singleton _ _, fun x hx y hy => ?_⟩
          obtain ⟨x0, hx0, rfl⟩ := List.mem_map.mp hx
          obtain ⟨y0, hy0, rfl⟩ := List.mem_map.mp hy
          rw [List.mem_singleton.mp hy0, qn]
          exact (b4 x0 (List.mem_filter.mp hx0).1).2.1
        · rcases List.mem_append.mp hx with hx | hx
          · obtain ⟨x1, x2⟩ := stay x hx
            obtain ⟨y1, y2, y3, y4⟩ := b4 x x1
            refine ⟨y1, by omega, x2, ?_⟩
            have hne := slot2 x hx
            unfold KRq1 at y4 ⊢
            rw [vo _ _ hne, vo _ _ hne, vo _ _ hne, vo _ _ hne, vo _ _ hne, vo _ _ hne, c2o _ _ (by decide) (by decide), c2o _ _ (by decide) (by decide), c2o _ _ (by decide) (by decide), c2o _ _ (by decide) (by decide), c2o _ _ (by decide) (by decide), c2o _ _ (by decide) (by decide)]
            exact y4
          · rw [List.mem_singleton.mp hx, qn]
            exact ⟨q0, by omega, by omega, w1.trans q1.symm, w2.trans q2.symm, w3.trans q3.symm, w4.trans q4.symm, w5.trans q5.symm, w6.trans q6.symm⟩
        · rw [v0]
          by_cases k : u = b % 32
          · rw [if_pos k, if_pos]
            refine List.mem_map.mpr ⟨q, List.mem_append_right _ (List.mem_singleton.mpr rfl), ?_⟩
            rw [qn, k]
          · rw [if_neg k, c2o _ _ (by decide) (by decide), b5 u hu2]
            by_cases m : u ∈ (aRq a t).map (fun x => qN x % 32)
            · rw [if_pos m, if_pos]
              obtain ⟨x, hx, ex⟩ := List.mem_map.mp m
              exact List.mem_map.mpr ⟨x, List.mem_append_left _ (keep x hx (by rw [ex]; exact k)), ex⟩
            · rw [if_neg m, if_neg]
              intro y
              obtain ⟨x, hx, ex⟩ := List.mem_map.mp y
              rcases List.mem_append.mp hx with hx | hx
              · exact m (List.mem_map.mpr ⟨x, (stay x hx).1, ex⟩)
              · rw [List.mem_singleton.mp hx, qn] at ex
                exact k ex.symm
        · rw [c3o 8 0 (Or.inr rfl), e8', List.length_append, List.length_singleton]
      · rw [if_neg z, if_neg z]
        rw [e 52 (by decide)] at hut
        exact KRq_ne hF (by decide) z (h.2.2.2.2.1 t ht hut)
    exact ⟨esc, fr_k hF (by decide) e (by decide) h.2.1, hd_k hF (by decide) e (by decide) h.2.2.1, ld_k hF (by decide) e (by decide) h.2.2.2.1, hrq, bl_k hF (by decide) e (by decide) h.2.2.2.2.2.1, da_k hF (by decide) e (by decide) rfl h.2.2.2.2.2.2.1, lw_k hF (by decide) e (by decide) h.2.2.2.2.2.2.2.1, fun s hs => KG_fr hF (by decide) (h.2.2.2.2.2.2.2.2.1 s hs), fun s hs => KPg_fr hF (by decide) (h.2.2.2.2.2.2.2.2.2.1 s hs), fun s hs => KCh_fr hF (by decide) (h.2.2.2.2.2.2.2.2.2.2.1 s hs), fun s hs => KMc_fr hF (by decide) (h.2.2.2.2.2.2.2.2.2.2.2.1 s hs), pc_k hF (by decide) e (by decide) rfl h.2.2.2.2.2.2.2.2.2.2.2.2.1, cl_k hF (by decide) e (by decide) h.2.2.2.2.2.2.2.2.2.2.2.2.2.1, fun k hk => KDn_fr hF (by decide) (h.2.2.2.2.2.2.2.2.2.2.2.2.2.2.1 k hk), KAk_fr hF (by decide) h.2.2.2.2.2.2.2.2.2.2.2.2.2.2.2.1, KFc_fr hF (by decide) h.2.2.2.2.2.2.2.2.2.2.2.2.2.2.2.2.1, id_k hF (by decide) e (by decide) h.2.2.2.2.2.2.2.2.2.2.2.2.2.2.2.2.2.1, fun k hk => KIc_fr hF (by decide) (h.2.2.2.2.2.2.2.2.2.2.2.2.2.2.2.2.2.2.1 k hk), KLt_fr hF hT (by decide) h.2.2.2.2.2.2.2.2.2.2.2.2.2.2.2.2.2.2.2.1, KRm_fr hF hT (by decide) h.2.2.2.2.2.2.2.2.2.2.2.2.2.2.2.2.2.2.2.2.1, sh_k e (by decide) rfl rfl h.2.2.2.2.2.2.2.2.2.2.2.2.2.2.2.2.2.2.2.2.2.1, nw_k e (by decide) h.2.2.2.2.2.2.2.2.2.2.2.2.2.2.2.2.2.2.2.2.2.2⟩
  by_cases m : b % 32 ∈ (aRq a s).map (fun x => qN x % 32)
  · rw [if_pos m, if_pos (by decide)]
    refine fin _ (PX_I (by decide)) csI_e ?_
    obtain ⟨x, hx, ex⟩ := List.mem_map.mp m
    obtain ⟨y1, y2, y3, _⟩ := b4 x hx
    have e0 : aS a 151 s - 32 = x 0 := by
      rw [b1, y1, show (32 : Int32) = Int32.ofNat 32 from rfl, i_subn (by omega)]
      congr 1
      omega
    rw [csI_f (by decide), b6, e0, rq_split b3 hx]
  · rw [if_neg m, if_neg (by decide)]
    refine WP_b ?_
    refine fin _ (PX_t (PX_I (by decide)) (PX_I (by decide))) ((csI_f (by decide)).trans csI_e) ?_
    rw [csI_e, csI_f (by decide), b6, i_s]
    have ef : (aRq a s).filter (fun x => !decide (x 0 = aS a 151 s - 32)) = aRq a s := by
      rw [List.filter_eq_self]
      intro x hx
      exact (List.mem_filter.mp (keep x hx (fun z => m (List.mem_map.mpr ⟨x, hx, z⟩)))).2
    rw [ef]
