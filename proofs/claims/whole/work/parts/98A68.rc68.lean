/-! clients: alarms, what was asked is told -/
theorem RC_idle {c : CS} {a : AA} {v : CV} {k : Nat} (h : RC c a v) : RC (csI c 5 k 3 0 0) (aI a 124 k 0) v := by
  have hF : Ck [163] k c (csI c 5 k 3 0 0) := Ck_I (cl := 5) (f := 3) (Or.inr rfl)
  have e := eI1 (a := a) (f := 124) (i := k) (x := 0)
  have hcl : ∀ t, t < 8 → KCl (csI c 5 k 3 0 0) t (aS (aI a 124 k 0) 124 t) (aS (aI a 124 k 0) 137 t) (aS (aI a 124 k 0) 131 t) (aS (aI a 124 k 0) 130 t) := by
    intro t ht
    rw [e 137 (by decide), e 131 (by decide), e 130 (by decide)]
    by_cases q : t = k
    · rw [q]
      exact Or.inl (if_pos ⟨rfl, rfl⟩)
    · have e1 : aS (aI a 124 k 0) 124 t = aS a 124 t := if_neg (fun z => q z.2)
      rw [e1]
      exact KCl_ne hF (by decide) q (h.2.2.2.2.2.2.2.2.2.2.2.2.2.1 t ht)
  exact ⟨KSc_I (by decide) h.1, fr_k hF (by decide) e (by decide) h.2.1, hd_k hF (by decide) e (by decide) h.2.2.1, ld_k hF (by decide) e (by decide) h.2.2.2.1, rq_k hF (by decide) e (by decide) rfl h.2.2.2.2.1, bl_k hF (by decide) e (by decide) h.2.2.2.2.2.1, da_k hF (by decide) e (by decide) rfl h.2.2.2.2.2.2.1, lw_k hF (by decide) e (by decide) h.2.2.2.2.2.2.2.1, fun s hs => KG_fr hF (by decide) (h.2.2.2.2.2.2.2.2.1 s hs), fun s hs => KPg_fr hF (by decide) (h.2.2.2.2.2.2.2.2.2.1 s hs), fun s hs => KCh_fr hF (by decide) (h.2.2.2.2.2.2.2.2.2.2.1 s hs), fun s hs => KMc_fr hF (by decide) (h.2.2.2.2.2.2.2.2.2.2.2.1 s hs), pc_k hF (by decide) e (by decide) rfl h.2.2.2.2.2.2.2.2.2.2.2.2.1, hcl, fun k hk => KDn_fr hF (by decide) (h.2.2.2.2.2.2.2.2.2.2.2.2.2.2.1 k hk), KAk_fr hF (by decide) h.2.2.2.2.2.2.2.2.2.2.2.2.2.2.2.1, KFc_fr hF (by decide) h.2.2.2.2.2.2.2.2.2.2.2.2.2.2.2.2.1, id_k hF (by decide) e (by decide) h.2.2.2.2.2.2.2.2.2.2.2.2.2.2.2.2.2.1, fun k hk => KIc_fr hF (by decide) (h.2.2.2.2.2.2.2.2.2.2.2.2.2.2.2.2.2.2.1 k hk), KLt_fr hF rfl (by decide) h.2.2.2.2.2.2.2.2.2.2.2.2.2.2.2.2.2.2.2.1, KRm_fr hF rfl (by decide) h.2.2.2.2.2.2.2.2.2.2.2.2.2.2.2.2.2.2.2.2.1, sh_k e (by decide) rfl rfl h.2.2.2.2.2.2.2.2.2.2.2.2.2.2.2.2.2.2.2.2.2.1, nw_k e (by decide) h.2.2.2.2.2.2.2.2.2.2.2.2.2.2.2.2.2.2.2.2.2.2⟩
/-- what an idle client has is nobody's -/
theorem RC_zcl {c : CS} {a : AA} {v : CV} {k f : Nat} {x : Int32} (hf : f = 9 ∨ f = 10 ∨ f = 11) (h : RC c a v) (hi : aS a 124 k = 0) : RC (csI c 5 k f 0 x) a v := by
  have hF : Ck [169, 170, 171] k c (csI c 5 k f 0 x) := by
    rcases hf with rfl | rfl | rfl
    · exact Ck_w (Ck_I (cl := 5) (f := 9) (Or.inr rfl)) (by decide)
    · exact Ck_w (Ck_I (cl := 5) (f := 10) (Or.inr rfl)) (by decide)
    · exact Ck_w (Ck_I (cl := 5) (f := 11) (Or.inr rfl)) (by decide)
  have hcl : ∀ t, t < 8 → KCl (csI c 5 k f 0 x) t (aS a 124 t) (aS a 137 t) (aS a 131 t) (aS a 130 t) := by
    intro t ht
    by_cases q : t = k
    · rw [q]
      exact Or.inl hi
    · exact KCl_ne hF (by decide) q (h.2.2.2.2.2.2.2.2.2.2.2.2.2.1 t ht)
  exact ⟨KSc_fr hF (by decide) h.1, fun s hs hu => KFr_fr hF (by decide) (h.2.1 s hs hu), fun s hs => KHd_fr hF (by decide) (h.2.2.1 s hs), fun s hs hr => KLd_fr hF (by decide) (h.2.2.2.1 s hs hr), fun s hs hu => KRq_fr hF (by decide) (h.2.2.2.2.1 s hs hu), KBl_fr hF (by decide) h.2.2.2.2.2.1, KDa_fr hF (by decide) h.2.2.2.2.2.2.1, fun s hs => KLw_fr hF (by decide) (h.2.2.2.2.2.2.2.1 s hs), fun s hs => KG_fr hF (by decide) (h.2.2.2.2.2.2.2.2.1 s hs), fun s hs => KPg_fr hF (by decide) (h.2.2.2.2.2.2.2.2.2.1 s hs), fun s hs => KCh_fr hF (by decide) (h.2.2.2.2.2.2.2.2.2.2.1 s hs), fun s hs => KMc_fr hF (by decide) (h.2.2.2.2.2.2.2.2.2.2.2.1 s hs), fun s hs => KPc_fr hF (by decide) (h.2.2.2.2.2.2.2.2.2.2.2.2.1 s hs), hcl, fun k hk => KDn_fr hF (by decide) (h.2.2.2.2.2.2.2.2.2.2.2.2.2.2.1 k hk), KAk_fr hF (by decide) h.2.2.2.2.2.2.2.2.2.2.2.2.2.2.2.1, KFc_fr hF (by decide) h.2.2.2.2.2.2.2.2.2.2.2.2.2.2.2.2.1, fun s hs => KId_fr hF (by decide) (h.2.2.2.2.2.2.2.2.2.2.2.2.2.2.2.2.2.1 s hs), fun k hk => KIc_fr hF (by decide) (h.2.2.2.2.2.2.2.2.2.2.2.2.2.2.2.2.2.2.1 k hk), KLt_fr hF rfl (by decide) h.2.2.2.2.2.2.2.2.2.2.2.2.2.2.2.2.2.2.2.1, KRm_fr hF rfl (by decide) h.2.2.2.2.2.2.2.2.2.2.2.2.2.2.2.2.2.2.2.2.1, h.2.2.2.2.2.2.2.2.2.2.2.2.2.2.2.2.2.2.2.2.2.1, h.2.2.2.2.2.2.2.2.2.2.2.2.2.2.2.2.2.2.2.2.2.2⟩
theorem RC_130 {c : CS} {a : AA} {v : CV} {k : Nat} {x : Int32} (h : RC c a v) : RC (csI c 5 k 11 0 x) (aI a 130 k x) v := by
  have hF : Ck [171] k c (csI c 5 k 11 0 x) := Ck_I (cl := 5) (f := 11) (Or.inr rfl)
  have e := eI1 (a := a) (f := 130) (i := k) (x := x)
  have hcl : ∀ t, t < 8 → KCl (csI c 5 k 11 0 x) t (aS (aI a 130 k x) 124 t) (aS (aI a 130 k x) 137 t) (aS (aI a 130 k x) 131 t) (aS (aI a 130 k x) 130 t) := by
    intro t ht
    rw [e 124 (by decide), e 137 (by decide), e 131 (by decide)]
    by_cases q : t = k
    · rw [q]
      have e1 : aS (aI a 130 k x) 130 k = x := if_pos ⟨rfl, rfl⟩
      rw [e1]
      rcases h.2.2.2.2.2.2.2.2.2.2.2.2.2.1 t ht with z | ⟨z1, z2, z3⟩
      · rw [q] at z
        exact Or.inl z
      · rw [q] at z1 z2
        exact Or.inr ⟨(csI_f (by decide)).trans z1, (csI_f (by decide)).trans z2, csI_e⟩
    · have e1 : aS (aI a 130 k x) 130 t = aS a 130 t := if_neg (fun z => q z.2)
      rw [e1]
      exact KCl_ne hF (by decide) q (h.2.2.2.2.2.2.2.2.2.2.2.2.2.1 t ht)
  exact ⟨KSc_k hF (by decide) e (by decide) h.1, fr_k hF (by decide) e (by decide) h.2.1, hd_k hF (by decide) e (by decide) h.2.2.1, ld_k hF (by decide) e (by decide) h.2.2.2.1, rq_k hF (by decide) e (by decide) rfl h.2.2.2.2.1, bl_k hF (by decide) e (by decide) h.2.2.2.2.2.1, da_k hF (by decide) e (by decide) rfl h.2.2.2.2.2.2.1, lw_k hF (by decide) e (by decide) h.2.2.2.2.2.2.2.1, fun s hs => KG_fr hF (by decide) (h.2.2.2.2.2.2.2.2.1 s hs), fun s hs => KPg_fr hF (by decide) (h.2.2.2.2.2.2.2.2.2.1 s hs), fun s hs => KCh_fr hF (by decide) (h.2.2.2.2.2.2.2.2.2.2.1 s hs), fun s hs => KMc_fr hF (by decide) (h.2.2.2.2.2.2.2.2.2.2.2.1 s hs), pc_k hF (by decide) e (by decide) rfl h.2.2.2.2.2.2.2.2.2.2.2.2.1, hcl, fun k hk => KDn_fr hF (by decide) (h.2.2.2.2.2.2.2.2.2.2.2.2.2.2.1 k hk), KAk_fr hF (by decide) h.2.2.2.2.2.2.2.2.2.2.2.2.2.2.2.1, KFc_fr hF (by decide) h.2.2.2.2.2.2.2.2.2.2.2.2.2.2.2.2.1, id_k hF (by decide) e (by decide) h.2.2.2.2.2.2.2.2.2.2.2.2.2.2.2.2.2.1, fun k hk => KIc_fr hF (by decide) (h.2.2.2.2.2.2.2.2.2.2.2.2.2.2.2.2.2.2.1 k hk), KLt_fr hF rfl (by decide) h.2.2.2.2.2.2.2.2.2.2.2.2.2.2.2.2.2.2.2.1, KRm_fr hF rfl (by decide) h.2.2.2.2.2.2.2.2.2.2.2.2.2.2.2.2.2.2.2.2.1, sh_k e (by decide) rfl rfl h.2.2.2.2.2.2.2.2.2.2.2.2.2.2.2.2.2.2.2.2.2.1, nw_k e (by decide) h.2.2.2.2.2.2.2.2.2.2.2.2.2.2.2.2.2.2.2.2.2.2⟩
theorem RC_131 {c : CS} {a : AA} {v : CV} {k : Nat} {x : Int32} (h : RC c a v) : RC (csI c 5 k 10 0 x) (aI a 131 k x) v := by
  have hF : Ck [170] k c (csI c 5 k 10 0 x) := Ck_I (cl := 5) (f := 10) (Or.inr rfl)
  have e := eI1 (a := a) (f := 131) (i := k) (x := x)
  have hcl : ∀ t, t < 8 → KCl (csI c 5 k 10 0 x) t (aS (aI a 131 k x) 124 t) (aS (aI a 131 k x) 137 t) (aS (aI a 131 k x) 131 t) (aS (aI a 131 k x) 130 t) := by
    intro t ht
    rw [e 124 (by decide), e 137 (by decide), e 130 (by decide)]
    by_cases q : t = k
    · rw [q]
      have e1 : aS (aI a 131 k x) 131 k = x := if_pos ⟨rfl, rfl⟩
      rw [e1]
      rcases h.2.2.2.2.2.2.2.2.2.2.2.2.2.1 t ht with z | ⟨z1, z2, z3⟩
      · rw [q] at z
        exact Or.inl z
      · rw [q] at z1 z3
        exact Or.inr ⟨(csI_f (by decide)).trans z1, csI_e, (csI_f (by decide)).trans z3⟩
    · have e1 : aS (aI a 131 k x) 131 t = aS a 131 t := if_neg (fun z => q z.2)
      rw [e1]
      exact KCl_ne hF (by decide) q (h.2.2.2.2.2.2.2.2.2.2.2.2.2.1 t ht)
  exact ⟨KSc_k hF (by decide) e (by decide) h.1, fr_k hF (by decide) e (by decide) h.2.1, hd_k hF (by decide) e (by decide) h.2.2.1, ld_k hF (by decide) e (by decide) h.2.2.2.1, rq_k hF (by decide) e (by decide) rfl h.2.2.2.2.1, bl_k hF (by decide) e (by decide) h.2.2.2.2.2.1, da_k hF (by decide) e (by decide) rfl h.2.2.2.2.2.2.1, lw_k hF (by decide) e (by decide) h.2.2.2.2.2.2.2.1, fun s hs => KG_fr hF (by decide) (h.2.2.2.2.2.2.2.2.1 s hs), fun s hs => KPg_fr hF (by decide) (h.2.2.2.2.2.2.2.2.2.1 s hs), fun s hs => KCh_fr hF (by decide) (h.2.2.2.2.2.2.2.2.2.2.1 s hs), fun s hs => KMc_fr hF (by decide) (h.2.2.2.2.2.2.2.2.2.2.2.1 s hs), pc_k hF (by decide) e (by decide) rfl h.2.2.2.2.2.2.2.2.2.2.2.2.1, hcl, fun k hk => KDn_fr hF (by decide) (h.2.2.2.2.2.2.2.2.2.2.2.2.2.2.1 k hk), KAk_fr hF (by decide) h.2.2.2.2.2.2.2.2.2.2.2.2.2.2.2.1, KFc_fr hF (by decide) h.2.2.2.2.2.2.2.2.2.2.2.2.2.2.2.2.1, id_k hF (by decide) e (by decide) h.2.2.2.2.2.2.2.2.2.2.2.2.2.2.2.2.2.1, fun k hk => KIc_fr hF (by decide) (h.2.2.2.2.2.2.2.2.2.2.2.2.2.2.2.2.2.2.1 k hk), KLt_fr hF rfl (by decide) h.2.2.2.2.2.2.2.2.2.2.2.2.2.2.2.2.2.2.2.1, KRm_fr hF rfl (by decide) h.2.2.2.2.2.2.2.2.2.2.2.2.2.2.2.2.2.2.2.2.1, sh_k e (by decide) rfl rfl h.2.2.2.2.2.2.2.2.2.2.2.2.2.2.2.2.2.2.2.2.2.1, nw_k e (by decide) h.2.2.2.2.2.2.2.2.2.2.2.2.2.2.2.2.2.2.2.2.2.2⟩
theorem K_busy {c : CS} {a : AA} {v : CV} {k : Nat} (h : RC c a v) (hk : k < 8) (hb : ¬ aS a 124 k = 0) : cI c 5 k 9 0 = aS a 137 k ∧ cI c 5 k 10 0 = aS a 131 k ∧ cI c 5 k 11 0 = aS a 130 k := (h.2.2.2.2.2.2.2.2.2.2.2.2.2.1 k hk).resolve_left hb
/-- whether a command is asked -/
theorem K_isCmd {c : CS} {a : AA} {v : CV} {k j : Nat} (h : RC c a v) (hk : k < 8) (hb : ¬ aS a 124 k = 0) (hj : aS a 137 k = Int32.ofNat j) (hl : j < (aAk a).length) : k_Client_isCommand c k = some (aB (aCmd a k)) := by
  have h1024 := (h.2.2.2.2.2.2.2.2.2.2.2.2.2.2.2.1).2.1
  have e : k_Askings_tell c 0 (Int32.ofNat j) 1 = some (kFld (aAk a) j 1) := K_tellA (f := 1) h hl (by omega)
  have ef : kFld (aAk a) j 1 = ((aAk a).getD j (fun _ => 0, [])).1 1 := rfl
  have ec : aCmd a k = decide (((aAk a).getD j (fun _ => 0, [])).1 1 < 3) := by
    unfold aCmd aAsk
    rw [hj, i_cl (by omega)]
  unfold k_Client_isCommand k_Client_isCommand_b0 k_Client_isCommand_b21
  rw [(K_busy h hk hb).1, hj, e, ef, ec]
  generalize ((aAk a).getD j (fun _ => 0, [])).1 1 = x
  show (if xc2 .gt x 2 = true then _ else _) = _
  by_cases q : x < 3
  · rw [if_neg (fun z => by
      have z := c2_gt.mp z
      rw [Int32.lt_iff_toInt_lt] at z q
      rw [show (2 : Int32).toInt = 2 by decide] at z
      rw [show (3 : Int32).toInt = 3 by decide] at q
      omega), decide_eq_true q, if_pos (Or.inr rfl)]
    rfl
  · rw [if_pos (c2_gt.mpr (by
      rw [Int32.lt_iff_toInt_lt] at q ⊢
      rw [show (2 : Int32).toInt = 2 by decide]
      rw [show (3 : Int32).toInt = 3 by decide] at q
      omega)), decide_eq_false q, if_pos (Or.inl rfl)]
    rfl
/-- a client's alarm -/
theorem K_setAl {c : CS} {a : AA} {v : CV} {k : Nat} {t x : Int32} (h : RC c a v) (hk : k < 8) (hm : mdOK a 0) (ht : 0 ≤ aNow a + t) (hx : x = 0 ∨ x = 1) : WP (k_Client_setAlarm c k t x) (fun c' => RC c' (aI (A_alarm a (8 + k) (aNow a + t)) 130 k x) v) := by
  have e0 : cI c 5 k 0 0 = Int32.ofNat (8 + k) := h.2.2.2.2.2.2.2.2.2.2.2.2.2.2.2.2.2.2.1 k hk
  unfold k_Client_setAlarm k_Client_setAlarm_b0 cputZ
  rw [e0, K_r h (F := 1) (cl := 14) (f := 0) (by decide) (by decide)]
  refine WP_call (K_alarm h (show 8 + k < 16 by omega) hm ht) (fun c1 h1 => ?_)
  rw [if_pos hx]
  exact WP_b (WP_some (RC_130 h1))
theorem map_set {K : List AK} {j : Nat} {q : AK} (h : q.2.length = (K.getD j (fun _ => 0, [])).2.length) : (K.set j q).map (fun k => k.2.length) = K.map (fun k => k.2.length) := by
  apply List.ext_getElem (by simp)
  intro i h1 h2
  rw [List.getElem_map, List.getElem_map, List.getElem_set]
  by_cases z : j = i
  · subst z
    rw [if_pos rfl, h, List.getD_eq_getElem?_getD, List.getElem?_eq_getElem]
    rfl
  · rw [if_neg z]
theorem kOff_set {K : List AK} {j i : Nat} {q : AK} (h : q.2.length = (K.getD j (fun _ => 0, [])).2.length) : kOff (K.set j q) i = kOff K i := by
  unfold kOff
  rw [List.map_take, List.map_take, map_set h]
/-- an asking is told -/
theorem K_setTold {c : CS} {a : AA} {v : CV} {j : Nat} {x y : Int32} (h : RC c a v) (hj : j < (aAk a).length) : WP (k_Askings_setTold c 0 (Int32.ofNat j) x y) (fun c' => RC c' (aAdd (aAkS a ((aAk a).set j (aU (aU (aU ((aAk a).getD j (fun _ => 0, [])).1 3 (aS a 141 0)) 4 x) 5 y, ((aAk a).getD j (fun _ => 0, [])).2))) 141 0 1) v) := by
  obtain ⟨g0, g1, g4, g2, g3, gl, ge⟩ := h.2.2.2.2.2.2.2.2.2.2.2.2.2.2.2.1
  have e1 : cI c 4 0 1 0 = aS a 141 0 := K_r h (F := 141) (cl := 4) (f := 1) (by decide) (by decide)
  have ei : ∀ f : Nat, f < 10 → Int32.ofNat j * 10 + Int32.ofNat f = Int32.ofNat (10 * j + f) := by
    intro f hf
    rw [show (10 : Int32) = Int32.ofNat 10 from rfl, i_mc, i_ad, Nat.mul_comm]
  have i3 : Int32.ofNat j * 10 + 3 = Int32.ofNat (10 * j + 3) := ei 3 (by omega)
  have i4 : Int32.ofNat j * 10 + 4 = Int32.ofNat (10 * j + 4) := ei 4 (by omega)
  have i5 : Int32.ofNat j * 10 + 5 = Int32.ofNat (10 * j + 5) := ei 5 (by omega)
  unfold k_Askings_setTold k_Askings_setTold_b0
  rw [i3, i4, i5, e1]
  have cap : ∀ c' : CS, cal c' 4 0 2 = cL c' 4 0 2 := fun _ => rfl
  refine WP_eq (cwr_n rfl (show 10 * j + 3 < cL c 4 0 2 by omega) (by omega)) ?_
  refine WP_eq (cwr_n rfl (show 10 * j + 4 < cL c 4 0 2 by omega) (by omega)) ?_
  refine WP_eq (cwr_n rfl (show 10 * j + 5 < cL c 4 0 2 by omega) (by omega)) (WP_b (WP_some ?_))
  have P : PX 4 0 [2] c (csI (csI (csI c 4 0 2 (10 * j + 3) (aS a 141 0)) 4 0 2 (10 * j + 4) x) 4 0 2 (10 * j + 5) y) := PX_t (PX_t (PX_I (by decide)) (PX_I (by decide))) (PX_I (by decide))
  have x2 : ∀ i, cI (csI (csI (csI c 4 0 2 (10 * j + 3) (aS a 141 0)) 4 0 2 (10 * j + 4) x) 4 0 2 (10 * j + 5) y) 4 0 2 i = if i = 10 * j + 5 then y else if i = 10 * j + 4 then x else if i = 10 * j + 3 then aS a 141 0 else cI c 4 0 2 i := by
    intro i
    by_cases q5 : i = 10 * j + 5
    · rw [if_pos q5, q5, csI_e]
    · rw [if_neg q5, csI_j q5]
      by_cases q4 : i = 10 * j + 4
      · rw [if_pos q4, q4, csI_e]
      · rw [if_neg q4, csI_j q4]
        by_cases q3 : i = 10 * j + 3
        · rw [if_pos q3, q3, csI_e]
        · rw [if_neg q3, csI_j q3]
  have e141 : cI (csI (csI (csI c 4 0 2 (10 * j + 3) (aS a 141 0)) 4 0 2 (10 * j + 4) x) 4 0 2 (10 * j + 5) y) 4 0 1 0 = aS a 141 0 := (PX_o P (by decide)).trans e1
  rw [e141]
  generalize csI (csI (csI c 4 0 2 (10 * j + 3) (aS a 141 0)) 4 0 2 (10 * j + 4) x) 4 0 2 (10 * j + 5) y = c1 at P x2
  have hF : Ck [130] 0 c c1 := PX_k P (Or.inl rfl) (by decide)
  have hT := P.2.1
  have hq : (((aU (aU (aU ((aAk a).getD j (fun _ => 0, [])).1 3 (aS a 141 0)) 4 x) 5 y, ((aAk a).getD j (fun _ => 0, [])).2) : AK)).2.length = ((aAk a).getD j (fun _ => 0, [])).2.length := rfl
  have hak : KAk c1 (aAk (aAkS a ((aAk a).set j (aU (aU (aU ((aAk a).getD j (fun _ => 0, [])).1 3 (aS a 141 0)) 4 x) 5 y, ((aAk a).getD j (fun _ => 0, [])).2)))) := by
    show KAk c1 ((aAk a).set j (aU (aU (aU ((aAk a).getD j (fun _ => 0, [])).1 3 (aS a 141 0)) 4 x) 5 y, ((aAk a).getD j (fun _ => 0, [])).2))
    refine ⟨?_, ?_, ?_, ?_, ?_, ?_, ?_⟩
    · rw [List.length_set]
      exact (PX_o P (by decide)).trans g0
    · rw [List.length_set]
      exact g1
    · rw [List.length_set, kOff_set hq]
      exact (PX_o P (by decide)).trans g4
    · rw [List.length_set, PX_cL P]
      exact g2
    · rw [List.length_set, kOff_set hq, PX_cL P]
      exact g3
    · intro k hk
      rcases List.mem_or_eq_of_mem_set hk with z | z
      · exact gl k z
      · rw [z]
        show ((aAk a).getD j (fun _ => 0, [])).2.length ≤ 232
        rw [List.getD_eq_getElem?_getD, List.getElem?_eq_getElem hj]
        exact gl _ (List.getElem_mem hj)
    · intro i hi
      rw [List.length_set] at hi
      have ge := ge i hi
      dsimp only at ge ⊢
      rw [kOff_set hq]
      obtain ⟨f0, f6, f7, f8, f9, fb⟩ := ge
      have eb : ∀ w, cI c1 4 0 3 w = cI c 4 0 3 w := fun w => PX_o P (by decide)
      by_cases z : i = j
      · subst z
        have es : ((aAk a).set i (aU (aU (aU ((aAk a).getD i (fun _ => 0, [])).1 3 (aS a 141 0)) 4 x) 5 y, ((aAk a).getD i (fun _ => 0, [])).2)).getD i (fun _ => 0, []) = (aU (aU (aU ((aAk a).getD i (fun _ => 0, [])).1 3 (aS a 141 0)) 4 x) 5 y, ((aAk a).getD i (fun _ => 0, [])).2) := by
          rw [List.getD_eq_getElem?_getD, List.getElem?_set_self hi]
          rfl
        rw [es]
        dsimp only
        refine ⟨fun w hw => ?_, ?_, ?_, ?_, ?_, fun w hw => ?_⟩
        · rw [x2]
          unfold aU
          by_cases q5 : w = 5
          · rw [if_pos (by omega), if_pos q5]
          · rw [if_neg (by omega), if_neg q5]
            by_cases q4 : w = 4
            · rw [if_pos (by omega), if_pos q4]
            · rw [if_neg (by omega), if_neg q4]
              by_cases q3 : w = 3
              · rw [if_pos (by omega), if_pos q3]
              · rw [if_neg (by omega), if_neg q3]
                exact f0 w hw
        · rw [x2, if_neg (by omega), if_neg (by omega), if_neg (by omega)]
          exact f6
        · rw [x2, if_neg (by omega), if_neg (by omega), if_neg (by omega)]
          exact f7
        · rw [x2, if_neg (by omega), if_neg (by omega), if_neg (by omega)]
          exact f8
        · rw [x2, if_neg (by omega), if_neg (by omega), if_neg (by omega)]
          exact f9
        · rw [eb]
          exact fb w hw
      · have es : ((aAk a).set j (aU (aU (aU ((aAk a).getD j (fun _ => 0, [])).1 3 (aS a 141 0)) 4 x) 5 y, ((aAk a).getD j (fun _ => 0, [])).2)).getD i (fun _ => 0, []) = (aAk a).getD i (fun _ => 0, []) := by
          rw [List.getD_eq_getElem?_getD, List.getElem?_set_ne (fun k => z k.symm), List.getD_eq_getElem?_getD]
        rw [es]
        have n : ∀ w, w < 10 → cI c1 4 0 2 (10 * i + w) = cI c 4 0 2 (10 * i + w) := fun w hw => by
          rw [x2, if_neg (by omega), if_neg (by omega), if_neg (by omega)]
        refine ⟨fun w hw => (n w (by omega)).trans (f0 w hw), (n 6 (by omega)).trans f6, (n 7 (by omega)).trans f7, (n 8 (by omega)).trans f8, (n 9 (by omega)).trans f9, fun w hw => (eb _).trans (fb w hw)⟩
  have h1 : RC c1 (aAkS a ((aAk a).set j (aU (aU (aU ((aAk a).getD j (fun _ => 0, [])).1 3 (aS a 141 0)) 4 x) 5 y, ((aAk a).getD j (fun _ => 0, [])).2))) v := ⟨KSc_fr hF (by decide) h.1, fun s hs hu => KFr_fr hF (by decide) (h.2.1 s hs hu), fun s hs => KHd_fr hF (by decide) (h.2.2.1 s hs), fun s hs hr => KLd_fr hF (by decide) (h.2.2.2.1 s hs hr), fun s hs hu => KRq_fr hF (by decide) (h.2.2.2.2.1 s hs hu), KBl_fr hF (by decide) h.2.2.2.2.2.1, KDa_fr hF (by decide) h.2.2.2.2.2.2.1, fun s hs => KLw_fr hF (by decide) (h.2.2.2.2.2.2.2.1 s hs), fun s hs => KG_fr hF (by decide) (h.2.2.2.2.2.2.2.2.1 s hs), fun s hs => KPg_fr hF (by decide) (h.2.2.2.2.2.2.2.2.2.1 s hs), fun s hs => KCh_fr hF (by decide) (h.2.2.2.2.2.2.2.2.2.2.1 s hs), fun s hs => KMc_fr hF (by decide) (h.2.2.2.2.2.2.2.2.2.2.2.1 s hs), fun s hs => KPc_fr hF (by decide) (h.2.2.2.2.2.2.2.2.2.2.2.2.1 s hs), fun k hk => KCl_fr hF (by decide) (h.2.2.2.2.2.2.2.2.2.2.2.2.2.1 k hk), fun k hk => KDn_fr hF (by decide) (h.2.2.2.2.2.2.2.2.2.2.2.2.2.2.1 k hk), hak, KFc_fr hF (by decide) h.2.2.2.2.2.2.2.2.2.2.2.2.2.2.2.2.1, fun s hs => KId_fr hF (by decide) (h.2.2.2.2.2.2.2.2.2.2.2.2.2.2.2.2.2.1 s hs), fun k hk => KIc_fr hF (by decide) (h.2.2.2.2.2.2.2.2.2.2.2.2.2.2.2.2.2.2.1 k hk), KLt_fr hF hT (by decide) h.2.2.2.2.2.2.2.2.2.2.2.2.2.2.2.2.2.2.2.1, KRm_eq P.2.2.1 P.2.2.2 P.2.1 h.2.2.2.2.2.2.2.2.2.2.2.2.2.2.2.2.2.2.2.2.1, h.2.2.2.2.2.2.2.2.2.2.2.2.2.2.2.2.2.2.2.2.2.1, h.2.2.2.2.2.2.2.2.2.2.2.2.2.2.2.2.2.2.2.2.2.2⟩
  exact RC_I h1 (F := 141) (cl := 4) (f := 1) (i := 0) (by decide) (by decide)
