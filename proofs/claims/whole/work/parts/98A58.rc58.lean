/-! a leader is heeded; a leader hears -/
def aHeed (a : AA) (s : Nat) (f : Int32) : AA := A_drawAlarm (aI (aI (aI a 73 s 0) 74 s f) 78 s (aNow a)) s
theorem led_heed {a : AA} {s : Nat} {f : Int32} (hr : ¬ aS a 73 s = 3) : A_drawAlarm (aI (A_stepDown a s (aS a 53 s) f) 78 s (aNow a)) s = aHeed a s f := by
  have e : A_stepDown a s (aS a 53 s) f = aI (aI a 73 s 0) 74 s f := by
    unfold A_stepDown
    dsimp only
    rw [if_neg (Int32.lt_irrefl), if_neg hr]
  unfold aHeed
  rw [e]
theorem RC_78 {c : CS} {a : AA} {v : CV} {s : Nat} {x : Int32} (h : RC c a v) (hx : ¬ x = -2000000000) : RC (csI c 13 s 14 0 x) (aI a 78 s x) v := by
  have hF : Ck [430] s c (csI c 13 s 14 0 x) := Ck_I (cl := 13) (f := 14) (Or.inr rfl)
  have e : ∀ g, g ∉ [78] → ∀ j, aS (aI a 78 s x) g j = aS a g j := eI1
  have hhd : ∀ t, t < 7 → KHd (csI c 13 s 14 0 x) t (aS (aI a 78 s x) 78 t) := by
    intro t ht
    by_cases q : t = s
    · rw [q]
      have e1 : aS (aI a 78 s x) 78 s = x := if_pos ⟨rfl, rfl⟩
      rw [e1]
      unfold KHd
      rw [csI_e, if_neg hx]
    · have e1 : aS (aI a 78 s x) 78 t = aS a 78 t := if_neg (fun z => q z.2)
      rw [e1]
      exact KHd_ne hF (by decide) q (h.2.2.1 t ht)
  exact ⟨KSc_k hF (by decide) e (by decide) h.1, fr_k hF (by decide) e (by decide) h.2.1, hhd, ld_k hF (by decide) e (by decide) h.2.2.2.1, rq_k hF (by decide) e (by decide) rfl h.2.2.2.2.1, bl_k hF (by decide) e (by decide) h.2.2.2.2.2.1, da_k hF (by decide) e (by decide) rfl h.2.2.2.2.2.2.1, lw_k hF (by decide) e (by decide) h.2.2.2.2.2.2.2.1, fun s hs => KG_fr hF (by decide) (h.2.2.2.2.2.2.2.2.1 s hs), fun s hs => KPg_fr hF (by decide) (h.2.2.2.2.2.2.2.2.2.1 s hs), fun s hs => KCh_fr hF (by decide) (h.2.2.2.2.2.2.2.2.2.2.1 s hs), fun s hs => KMc_fr hF (by decide) (h.2.2.2.2.2.2.2.2.2.2.2.1 s hs), pc_k hF (by decide) e (by decide) rfl h.2.2.2.2.2.2.2.2.2.2.2.2.1, cl_k hF (by decide) e (by decide) h.2.2.2.2.2.2.2.2.2.2.2.2.2.1, fun k hk => KDn_fr hF (by decide) (h.2.2.2.2.2.2.2.2.2.2.2.2.2.2.1 k hk), KAk_fr hF (by decide) h.2.2.2.2.2.2.2.2.2.2.2.2.2.2.2.1, KFc_fr hF (by decide) h.2.2.2.2.2.2.2.2.2.2.2.2.2.2.2.2.1, id_k hF (by decide) e (by decide) h.2.2.2.2.2.2.2.2.2.2.2.2.2.2.2.2.2.1, fun k hk => KIc_fr hF (by decide) (h.2.2.2.2.2.2.2.2.2.2.2.2.2.2.2.2.2.2.1 k hk), KLt_fr hF rfl (by decide) h.2.2.2.2.2.2.2.2.2.2.2.2.2.2.2.2.2.2.2.1, KRm_fr hF rfl (by decide) h.2.2.2.2.2.2.2.2.2.2.2.2.2.2.2.2.2.2.2.2.1, sh_k e (by decide) rfl rfl h.2.2.2.2.2.2.2.2.2.2.2.2.2.2.2.2.2.2.2.2.2.1, nw_k e (by decide) h.2.2.2.2.2.2.2.2.2.2.2.2.2.2.2.2.2.2.2.2.2.2⟩
theorem K_heeds {c : CS} {a : AA} {s ad : Nat} {l : AL} {H : List (Nat × Option AL)} {U : Nat → Int32} {N : Nat × Nat} (h : RC c a (((ad, some l) :: H, U), N)) (hs : s < 7) (hm : mdOK a 0) : WP (k_Server_heeds c s ad) (fun p => p.1 = aB (!decide (aS a 73 s = 3)) ∧ RC p.2 (if aS a 73 s = 3 then a else aHeed a s (l.1 2)) (((ad, some l) :: H, U), N)) := by
  have hl := RC_hand h List.mem_cons_self
  have e2 : cI c 8 ad 2 0 = l.1 2 := hl.1 2 (by decide)
  unfold k_Server_heeds k_Server_heeds_b0 k_Server_follow k_Server_follow_b0
  rw [K_r h (F := 73) (cl := 13) (f := 12) (by decide) hs, if_pos (show (0 : Int32) = 0 ∨ (0 : Int32) = 1 from Or.inl rfl), e2]
  refine WP_if c2_ne (fun z => ?_) (fun z => ?_)
  · rw [if_neg z, decide_eq_false z]
    have h1 := RC_73 (x := 0) (s := s) h (by decide)
    have h2 := RC_I (x := l.1 2) h1 (F := 74) (cl := 13) (f := 13) (i := s) (by decide) (by decide)
    refine WP_b (WP_b (WP_b ?_))
    rw [K_r h2 (F := 1) (cl := 14) (f := 0) (by decide) (by decide)]
    have e1 : aS (aI (aI a 73 s 0) 74 s (l.1 2)) 1 0 = aNow a := rfl
    rw [e1]
    have hn := h.2.2.2.2.2.2.2.2.2.2.2.2.2.2.2.2.2.2.2.2.2.2.1
    have h3 := RC_78 (s := s) (x := aNow a) h2 (fun y => by
      rw [y] at hn
      exact absurd hn (by decide))
    refine WP_b ?_
    rw [RC_b1 h3 hs]
    refine WP_call (K_drawAlarm h3 hs (mdOK_s hm rfl)) (fun c1 h4 => ?_)
    rw [if_pos (show (1 : Int32) = 0 ∨ (1 : Int32) = 1 from Or.inr rfl)]
    exact WP_some ⟨rfl, h4⟩
  · have z : aS a 73 s = 3 := Classical.not_not.mp z
    rw [if_pos z, decide_eq_true z]
    exact WP_some ⟨rfl, h⟩
/-- the leader hears of a peer -/
theorem K_hears {c : CS} {a : AA} {s ad p : Nat} {l : AL} {H : List (Nat × Option AL)} {U : Nat → Int32} {N : Nat × Nat} (h : RC c a (((ad, some l) :: H, U), N)) (hs : s < 7) (hk : l.1 4 = 6 ∨ l.1 4 = 8) (hp : p < 7) (hf : l.1 2 = Int32.ofNat p) : WP (k_Server_hears c s ad) (fun r => if l.1 5 = aS a 53 s ∧ aS a 73 s = 3 ∧ aPeer a s p = true then r.1 = 1 ∧ RC r.2 (hd1 a s l) (((ad, some l) :: H, aU U s (U s ||| 392)), N) else r.1 = 0 ∧ RC r.2 a (((ad, some l) :: H, U), N)) := by
  have hl := RC_hand h List.mem_cons_self
  have e2 : cI c 8 ad 2 0 = l.1 2 := hl.1 2 (by decide)
  have e5 : cI c 8 ad 5 0 = l.1 5 := hl.1 5 (by decide)
  have e10 : cI c 8 ad 10 0 = l.1 10 := by
    rcases hk with z | z
    · exact LR_f hl z (by rw [lF6]; decide)
    · exact LR_f hl z (by rw [lF8]; decide)
  have ecl : (Int32.ofNat p).toNatClampNeg = p := i_cl (by omega)
  unfold k_Server_hears k_Server_hears_b0 k_Server_hears_b33
  rw [if_pos (show (0 : Int32) = 0 ∨ (0 : Int32) = 1 from Or.inl rfl), K_r h (F := 53) (cl := 13) (f := 10) (by decide) hs, K_r h (F := 73) (cl := 13) (f := 12) (by decide) hs, e5]
  by_cases q1 : l.1 5 = aS a 53 s
  · rw [if_neg (fun z => c2_ne.mp z q1)]
    by_cases q2 : aS a 73 s = 3
    · rw [if_neg (fun z => c2_ne.mp z q2)]
      obtain ⟨x, hv, hx⟩ := K_peers h hs
      rw [hv]
      refine WP_b ?_
      rw [e2, hf]
      cases hpe : aPeer a s p with
      | false =>
        rw [if_neg (fun z => c0_ne.mp z (c0_eq.mp ((bit_k hp).mpr (by rw [hx p hp]; exact hpe))))]
        refine WP_some ?_
        rw [if_neg (fun z => absurd z.2.2 (by decide))]
        exact ⟨rfl, h⟩
      | true =>
        rw [if_pos (c0_ne.mpr (fun z => by
          have := (bit_k hp).mp (c0_eq.mpr z)
          rw [hx p hp, hpe] at this
          exact absurd this (by decide)))]
        rw [K_r h (F := 1) (cl := 14) (f := 0) (by decide) (by decide)]
        refine WP_eq (K_cwr (F := 92) (by decide) hp) ?_
        have h1 := RC_ldw (s := s) (x := aS a 1 0) h (F := 92) (f := 5) (by decide) hp
        have l1 := RC_hand h1 List.mem_cons_self
        rw [show cI (csI c 7 s 5 p (aS a 1 0)) 8 ad 2 0 = Int32.ofNat p from (l1.1 2 (by decide)).trans hf, show (1 : Int32) &&& 1 = 1 by decide]
        refine WP_eq (K_cwr (F := 93) (by decide) hp) ?_
        have h2 := RC_ldw (s := s) (x := 1) h1 (F := 93) (f := 7) (by decide) hp
        have l2 := RC_hand h2 List.mem_cons_self
        rw [show cI (csI (csI c 7 s 5 p (aS a 1 0)) 7 s 7 p 1) 8 ad 2 0 = Int32.ofNat p from (l2.1 2 (by decide)).trans hf]
        refine WP_eq (K_crd h2 hs (((aS_If (by decide)).trans (aS_If (by decide)) : aS (aI (aI a 92 (7 * s + p) (aS a 1 0)) 93 (7 * s + p) 1) 73 s = aS a 73 s).trans q2) (F := 91) (by decide) hp) ?_
        have e91 : aS (aI (aI a 92 (7 * s + p) (aS a 1 0)) 93 (7 * s + p) 1) 91 (7 * s + p) = aS a 91 (7 * s + p) := (aS_If (by decide)).trans (aS_If (by decide))
        rw [e91, show cI (csI (csI c 7 s 5 p (aS a 1 0)) 7 s 7 p 1) 8 ad 10 0 = l.1 10 from (csI_cl (by decide)).trans ((csI_cl (by decide)).trans e10), cmax_a]
        refine WP_eq (K_cwr (F := 91) (by decide) hp) ?_
        have h3 := RC_ldw (s := s) (x := aMax (aS a 91 (7 * s + p)) (l.1 10)) h2 (F := 91) (f := 4) (by decide) hp
        refine WP_b ?_
        rw [if_pos (show (1 : Int32) = 0 ∨ (1 : Int32) = 1 from Or.inr rfl)]
        have h4 := K_due (b := 392) h3 hs
        refine WP_some ?_
        rw [if_pos ⟨q1, q2, rfl⟩]
        refine ⟨rfl, ?_⟩
        have eh : hd1 a s l = aI (aI (aI a 92 (7 * s + p) (aS a 1 0)) 93 (7 * s + p) 1) 91 (7 * s + p) (aMax (aS a 91 (7 * s + p)) (l.1 10)) := by
          unfold hd1
          rw [hf, ecl]
          rfl
        rw [eh]
        exact h4
    · rw [if_pos (c2_ne.mpr q2)]
      refine WP_some ?_
      rw [if_neg (fun z => q2 z.2.1)]
      exact ⟨rfl, h⟩
  · rw [if_pos (c2_ne.mpr q1)]
    refine WP_some ?_
    rw [if_neg (fun z => q1 z.1)]
    exact ⟨rfl, h⟩
theorem pre_max {x : Int32} (h : 0 ≤ x) : cmax 0 (x - 1) = if 0 < x then x - 1 else x := by
  rw [i_of h]
  have hb : x.toNatClampNeg < 2147483648 := by
    have := i_nat h
    have := Int32.toInt_lt x
    omega
  generalize x.toNatClampNeg = n at hb
  by_cases z : n = 0
  · rw [z]
    decide
  · rw [if_pos (by
      rw [Int32.lt_iff_toInt_lt, i_0, Int32.toInt_ofNat_of_lt hb]
      omega), i_pre (by omega), cmax_0 (by omega)]
theorem K_tookAppended {c : CS} {a : AA} {s ad p : Nat} {l : AL} {H : List (Nat × Option AL)} {U : Nat → Int32} {N : Nat × Nat} (h : RC c a (((ad, some l) :: H, U), N)) (hs : s < 7) (hk : l.1 4 = 6) (hp : p < 7) (hf : l.1 2 = Int32.ofNat p) (h88 : aS a 73 s = 3 → 0 ≤ aS a 88 (7 * s + p)) : WP (k_Server_takeAppended c s ad) (fun c' => if l.1 5 = aS a 53 s ∧ aS a 73 s = 3 ∧ aPeer a s p = true then RC c' (hd2 (hd1 a s l) s l) (((ad, some l) :: H, aU U s (U s ||| 392)), N) else RC c' a (((ad, some l) :: H, U), N)) := by
  have ecl : (Int32.ofNat p).toNatClampNeg = p := i_cl (by omega)
  unfold k_Server_takeAppended k_Server_takeAppended_b0 k_Server_takeAppended_b179
  refine WP_call (K_hears h hs (Or.inl hk) hp hf) (fun r hr => ?_)
  by_cases q : l.1 5 = aS a 53 s ∧ aS a 73 s = 3 ∧ aPeer a s p = true
  · rw [if_pos q] at hr
    refine WP_mono (Q := fun c' => RC c' (hd2 (hd1 a s l) s l) (((ad, some l) :: H, aU U s (U s ||| 392)), N)) ?_ (fun c' hc => by rw [if_pos q]; exact hc)
    obtain ⟨r1, h1⟩ := hr
    rw [r1, if_pos (show xc0 .ne (1 : Int32) = true by decide)]
    have fr := @AFr_hd1 a s l
    have hr3 : aS (hd1 a s l) 73 s = 3 := by rw [fr.1 73 (by decide)]; exact q.2.1
    have g88 : 0 ≤ aS (hd1 a s l) 88 (7 * s + p) := by rw [fr.1 88 (by decide)]; exact h88 q.2.1
    have l0 := RC_hand h1 List.mem_cons_self
    have e2 : cI r.2 8 ad 2 0 = Int32.ofNat p := (l0.1 2 (by decide)).trans hf
    have e6 : cI r.2 8 ad 6 0 = l.1 6 := LR_f l0 hk (by rw [lF6]; decide)
    have e7 : cI r.2 8 ad 7 0 = l.1 7 := LR_f l0 hk (by rw [lF6]; decide)
    have e56 : cI r.2 9 s 6 0 = aLast (hd1 a s l) s := K_r h1 (F := 56) (cl := 9) (f := 6) (by decide) hs
    rw [e2, e6, e7, e56]
    have eh : hd2 (hd1 a s l) s l = (if l.1 6 = 1 then aI (aI (aI (aI (hd1 a s l) 87 (7 * s + p) (aMax (aS (hd1 a s l) 87 (7 * s + p)) (aMin (l.1 7) (aLast (hd1 a s l) s)))) 89 (7 * s + p) 0) 88 (7 * s + p) (if 0 < aS (hd1 a s l) 88 (7 * s + p) then aS (hd1 a s l) 88 (7 * s + p) - 1 else aS (hd1 a s l) 88 (7 * s + p))) 86 (7 * s + p) (aMax (aS (hd1 a s l) 86 (7 * s + p)) (aMin (l.1 7) (aLast (hd1 a s l) s) + 1)) else aI (aI (aI (hd1 a s l) 88 (7 * s + p) 0) 89 (7 * s + p) 1) 86 (7 * s + p) (aMin (aMax (l.1 7) (aS (hd1 a s l) 87 (7 * s + p) + 1)) (aLast (hd1 a s l) s + 1))) := by
      unfold hd2
      rw [hf, ecl]
      dsimp only
      rw [if_neg (show ¬ l.1 4 = 8 by rw [hk]; decide)]
    rw [eh]
    clear fr eh
    generalize hd1 a s l = b at h1 hr3 g88 e56
    refine WP_if c2_ne (fun z => ?_) (fun z => ?_)
    · rw [if_neg z]
      refine WP_eq (K_cwr (F := 88) (by decide) hp) ?_
      have h2 := RC_ldw (s := s) (x := 0) h1 (F := 88) (f := 2) (by decide) hp
      rw [show (1 : Int32) &&& 1 = 1 by decide]
      refine WP_eq (K_cwr (F := 89) (by decide) hp) ?_
      have h3 := RC_ldw (s := s) (x := 1) h2 (F := 89) (f := 6) (by decide) hp
      refine WP_eq (K_crd h3 hs (((aS_If (by decide)).trans (aS_If (by decide)) : aS (aI (aI b 88 (7 * s + p) 0) 89 (7 * s + p) 1) 73 s = aS b 73 s).trans hr3) (F := 87) (by decide) hp) ?_
      rw [show cI (csI (csI r.2 7 s 2 p 0) 7 s 6 p 1) 8 ad 7 0 = l.1 7 from (csI_cl (by decide)).trans ((csI_cl (by decide)).trans e7), show cI (csI (csI r.2 7 s 2 p 0) 7 s 6 p 1) 9 s 6 0 = aLast b s from (csI_cl (by decide)).trans ((csI_cl (by decide)).trans e56), cmax_a, cmin_a]
      refine WP_eq (K_cwr (F := 86) (by decide) hp) (WP_some ?_)
      exact RC_ldw (s := s) h3 (F := 86) (f := 0) (by decide) hp
    · have z : l.1 6 = 1 := Classical.not_not.mp z
      rw [if_pos z]
      refine WP_eq (K_crd h1 hs hr3 (F := 87) (by decide) hp) ?_
      rw [cmin_a, cmax_a]
      refine WP_eq (K_cwr (F := 87) (by decide) hp) ?_
      have h2 := RC_ldw (s := s) (x := aMax (aS b 87 (7 * s + p)) (aMin (l.1 7) (aLast b s))) h1 (F := 87) (f := 1) (by decide) hp
      rw [show (0 : Int32) &&& 1 = 0 by decide]
      refine WP_eq (K_cwr (F := 89) (by decide) hp) ?_
      have h3 := RC_ldw (s := s) (x := 0) h2 (F := 89) (f := 6) (by decide) hp
      refine WP_eq (K_crd h3 hs (((aS_If (by decide)).trans (aS_If (by decide))).trans hr3) (F := 88) (by decide) hp) ?_
      have e88 : aS (aI (aI b 87 (7 * s + p) (aMax (aS b 87 (7 * s + p)) (aMin (l.1 7) (aLast b s)))) 89 (7 * s + p) 0) 88 (7 * s + p) = aS b 88 (7 * s + p) := (aS_If (by decide)).trans (aS_If (by decide))
      rw [e88, pre_max g88]
      refine WP_eq (K_cwr (F := 88) (by decide) hp) ?_
      have h4 := RC_ldw (s := s) (x := if 0 < aS b 88 (7 * s + p) then aS b 88 (7 * s + p) - 1 else aS b 88 (7 * s + p)) h3 (F := 88) (f := 2) (by decide) hp
      refine WP_eq (K_crd h4 hs (((aS_If (by decide)).trans ((aS_If (by decide)).trans (aS_If (by decide)))).trans hr3) (F := 86) (by decide) hp) ?_
      have e86 : aS (aI (aI (aI b 87 (7 * s + p) (aMax (aS b 87 (7 * s + p)) (aMin (l.1 7) (aLast b s)))) 89 (7 * s + p) 0) 88 (7 * s + p) (if 0 < aS b 88 (7 * s + p) then aS b 88 (7 * s + p) - 1 else aS b 88 (7 * s + p))) 86 (7 * s + p) = aS b 86 (7 * s + p) := (aS_If (by decide)).trans ((aS_If (by decide)).trans (aS_If (by decide)))
      rw [e86, cmax_a]
      refine WP_eq (K_cwr (F := 86) (by decide) hp) (WP_some ?_)
      exact RC_ldw (s := s) h4 (F := 86) (f := 0) (by decide) hp
  · rw [if_neg q] at hr
    refine WP_mono (Q := fun c' => RC c' a (((ad, some l) :: H, U), N)) ?_ (fun c' hc => by rw [if_neg q]; exact hc)
    rw [hr.1, if_neg (show ¬ xc0 .ne (0 : Int32) = true by decide)]
    exact WP_some hr.2
theorem K_tookStored {c : CS} {a : AA} {s ad p : Nat} {l : AL} {H : List (Nat × Option AL)} {U : Nat → Int32} {N : Nat × Nat} (h : RC c a (((ad, some l) :: H, U), N)) (hs : s < 7) (hup : aS a 52 s = 1) (hk : l.1 4 = 8) (hp : p < 7) (hf : l.1 2 = Int32.ofNat p) : WP (k_Server_takeStored c s ad) (fun c' => if l.1 5 = aS a 53 s ∧ aS a 73 s = 3 ∧ aPeer a s p = true then RC c' (hd2 (hd1 a s l) s l) (((ad, some l) :: H, aU U s (U s ||| 392)), N) else RC c' a (((ad, some l) :: H, U), N)) := by
  have ecl : (Int32.ofNat p).toNatClampNeg = p := i_cl (by omega)
  unfold k_Server_takeStored k_Server_takeStored_b0 k_Server_takeStored_b147
  refine WP_call (K_hears h hs (Or.inr hk) hp hf) (fun r hr => ?_)
  by_cases q : l.1 5 = aS a 53 s ∧ aS a 73 s = 3 ∧ aPeer a s p = true
  · rw [if_pos q] at hr
    refine WP_mono (Q := fun c' => RC c' (hd2 (hd1 a s l) s l) (((ad, some l) :: H, aU U s (U s ||| 392)), N)) ?_ (fun c' hc => by rw [if_pos q]; exact hc)
    obtain ⟨r1, h1⟩ := hr
    rw [r1, if_pos (show xc0 .ne (1 : Int32) = true by decide)]
    have fr := @AFr_hd1 a s l
    have hr3 : aS (hd1 a s l) 73 s = 3 := by rw [fr.1 73 (by decide)]; exact q.2.1
    have hup1 : aS (hd1 a s l) 52 s = 1 := by rw [fr.1 52 (by decide)]; exact hup
    have l0 := RC_hand h1 List.mem_cons_self
    have e2 : cI r.2 8 ad 2 0 = Int32.ofNat p := (l0.1 2 (by decide)).trans hf
    have eh : hd2 (hd1 a s l) s l = (if ¬ l.1 7 = aBase (hd1 a s l) s then aI (aI (hd1 a s l) 88 (7 * s + p) 0) 90 (7 * s + p) 0
        else if aS (hd1 a s l) 67 s ≤ l.1 12 then aI (aI (aI (aI (aI (hd1 a s l) 88 (7 * s + p) 0) 87 (7 * s + p) (aMax (aS (hd1 a s l) 87 (7 * s + p)) (aBase (hd1 a s l) s))) 86 (7 * s + p) (aBase (hd1 a s l) s + 1)) 89 (7 * s + p) 1) 90 (7 * s + p) 0
        else aI (aI (hd1 a s l) 88 (7 * s + p) 0) 90 (7 * s + p) (l.1 12)) := by
      unfold hd2
      rw [hf, ecl]
      dsimp only
      rw [if_pos hk]
    rw [eh, e2]
    clear fr eh
    generalize hd1 a s l = b at h1 hr3 hup1
    refine WP_eq (K_cwr (F := 88) (by decide) hp) ?_
    have h2 := RC_ldw (s := s) (x := 0) h1 (F := 88) (f := 2) (by decide) hp
    generalize csI r.2 7 s 2 p 0 = c2 at h2
    have l2 := RC_hand h2 List.mem_cons_self
    have e7 : cI c2 8 ad 7 0 = l.1 7 := LR_f l2 hk (by rw [lF8]; decide)
    have e12 : cI c2 8 ad 12 0 = l.1 12 := LR_f l2 hk (by rw [lF8]; decide)
    have e55 : cI c2 9 s 3 0 = aBase b s := (K_r h2 (F := 55) (cl := 9) (f := 3) (by decide) hs).trans (aS_If (by decide))
    rw [e7, e12, e55]
    refine WP_if c2_eq (fun z => ?_) (fun z => ?_)
    · rw [if_neg (fun y => y z)]
      refine WP_eq (K_snapSize h2 hs hup1) ?_
      have e67 : aS (aI b 88 (7 * s + p) 0) 67 s = aS b 67 s := aS_If (by decide)
      rw [e67]
      refine WP_if c2_lt (fun y => ?_) (fun y => ?_)
      · rw [if_neg (i_nle.mpr y)]
        refine WP_eq (K_cwr (F := 90) (by decide) hp) (WP_some ?_)
        exact RC_ldw (s := s) h2 (F := 90) (f := 3) (by decide) hp
      · rw [if_pos (i_nlt.mp y)]
        refine WP_eq (K_crd h2 hs ((aS_If (by decide) : aS (aI b 88 (7 * s + p) 0) 73 s = aS b 73 s).trans hr3) (F := 87) (by decide) hp) ?_
        have e87 : aS (aI b 88 (7 * s + p) 0) 87 (7 * s + p) = aS b 87 (7 * s + p) := aS_If (by decide)
        rw [e87, cmax_a]
        refine WP_eq (K_cwr (F := 87) (by decide) hp) ?_
        have h3 := RC_ldw (s := s) (x := aMax (aS b 87 (7 * s + p)) (aBase b s)) h2 (F := 87) (f := 1) (by decide) hp
        rw [show cI (csI c2 7 s 1 p (aMax (aS b 87 (7 * s + p)) (aBase b s))) 9 s 3 0 = aBase b s from (csI_cl (by decide)).trans e55]
        refine WP_eq (K_cwr (F := 86) (by decide) hp) ?_
        have h4 := RC_ldw (s := s) (x := aBase b s + 1) h3 (F := 86) (f := 0) (by decide) hp
        rw [show (1 : Int32) &&& 1 = 1 by decide]
        refine WP_eq (K_cwr (F := 89) (by decide) hp) ?_
        have h5 := RC_ldw (s := s) (x := 1) h4 (F := 89) (f := 6) (by decide) hp
        refine WP_eq (K_cwr (F := 90) (by decide) hp) (WP_some ?_)
        exact RC_ldw (s := s) h5 (F := 90) (f := 3) (by decide) hp
    · rw [if_pos z]
      refine WP_eq (K_cwr (F := 90) (by decide) hp) (WP_some ?_)
      exact RC_ldw (s := s) h2 (F := 90) (f := 3) (by decide) hp
  · rw [if_neg q] at hr
    refine WP_mono (Q := fun c' => RC c' a (((ad, some l) :: H, U), N)) ?_ (fun c' hc => by rw [if_neg q]; exact hc)
    rw [hr.1, if_neg (show ¬ xc0 .ne (0 : Int32) = true by decide)]
    exact WP_some hr.2
