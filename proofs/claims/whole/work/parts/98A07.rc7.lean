/-! numbers change that little hangs on; bells -/
def AF0 : List Nat := [52, 46, 78, 73, 151, 69, 70, 124, 137, 131, 130, 145, 47, 67, 23, 72, 43, 82, 83, 86, 87, 88, 89, 90, 91, 92, 93]
def CD0 : List Nat := [199, 430, 224, 225, 226, 227, 228, 229, 230, 231, 232, 233, 384, 385, 386, 387, 388, 389, 390, 392, 460, 461, 462, 457, 194, 289, 352, 353, 354, 355, 356, 357, 358, 359, 360, 361, 195, 196, 197, 321, 322, 323, 324, 325, 326, 327, 328, 329, 433, 434, 169, 170, 171, 172, 173, 128, 130, 131, 132, 484, 485, 486, 487, 416, 288, 435, 160, 463, 464, 423, 256, 257, 258, 259, 260, 261, 262, 263, 264, 265, 266, 267, 268, 269, 270, 271, 272, 273, 274, 275, 334]
theorem RC_G {c c' : CS} {a a' : AA} {v : CV} {W D : List Nat} {o : Nat} (h : RC c a v) (hF : Ck D o c c') (hT : cT c' = cT c) (e : ∀ f, f ∉ W → ∀ i, aS a' f i = aS a f i) (e2 : a'.2 = a.2) (e3 : a'.1.2 = a.1.2) (hW : dj AF0 W = true) (hD : dj CD0 D = true) (hsc : KSc c' a') (hbl : KBl c' a') (hnw : nwOK a') : RC c' a' v := by
  have nf : ∀ g, g ∈ AF0 → ∀ j, aS a' g j = aS a g j := fun g hg => e g (dj_m hW hg)
  obtain ⟨⟨s1, s2⟩, x⟩ := a'
  obtain ⟨⟨t1, t2⟩, y⟩ := a
  simp only at e2 e3
  subst e2
  subst e3
  have n52 := nf 52 (by decide)
  have n46 := nf 46 (by decide)
  have n78 := nf 78 (by decide)
  have n73 := nf 73 (by decide)
  have n151 := nf 151 (by decide)
  have n69 := nf 69 (by decide)
  have n70 := nf 70 (by decide)
  have n124 := nf 124 (by decide)
  have n137 := nf 137 (by decide)
  have n131 := nf 131 (by decide)
  have n130 := nf 130 (by decide)
  have n145 := nf 145 (by decide)
  have n47 := nf 47 (by decide)
  have n67 := nf 67 (by decide)
  have n23 := nf 23 (by decide)
  have n72 := nf 72 (by decide)
  have n43 := nf 43 (by decide)
  have n82 := nf 82 (by decide)
  have n83 := nf 83 (by decide)
  have n86 := nf 86 (by decide)
  have n87 := nf 87 (by decide)
  have n88 := nf 88 (by decide)
  have n89 := nf 89 (by decide)
  have n90 := nf 90 (by decide)
  have n91 := nf 91 (by decide)
  have n92 := nf 92 (by decide)
  have n93 := nf 93 (by decide)
  have ed : KDa c' ((s1, s2), x) := by
    have := KDa_fr hF (dj_sub hD (by decide)) h.2.2.2.2.2.2.1
    unfold KDa at this ⊢
    simp only [n23, n72]
    exact this
  have el : ∀ s, s < 7 → KLw c' ((s1, s2), x) s := by
    intro s hs
    have := KLw_fr hF (dj_sub hD (by decide)) (h.2.2.2.2.2.2.2.1 s hs)
    unfold KLw at this ⊢
    simp only [n43]
    exact this
  have eh : ∀ s, s < 7 → aS ((s1, s2), x) 73 s = 3 → KLd c' ((s1, s2), x) s := by
    intro s hs hr
    rw [n73] at hr
    have := KLd_fr hF (dj_sub hD (by decide)) (h.2.2.2.1 s hs hr)
    unfold KLd at this ⊢
    simp only [n82, n83, n86, n87, n88, n89, n90, n91, n92, n93]
    exact this
  have es : ∀ s, s < 7 → aS ((s1, s2), x) 52 s = 1 → shOK ((s1, s2), x) s := by
    intro s hs hu
    rw [n52] at hu
    have := h.2.2.2.2.2.2.2.2.2.2.2.2.2.2.2.2.2.2.2.2.2.1 s hs hu
    unfold shOK at this ⊢
    simp only [n47, n67]
    exact this
  have f52 : ∀ s, aS ((s1, s2), x) 52 s = 1 → aS ((t1, s2), x) 52 s = 1 := fun s z => by rw [n52] at z; exact z
  have hlt : KLt c' ((s1, s2), x) v.1.1 := KLt_fr (a := ((s1, s2), x)) hF hT (dj_sub hD (by decide)) h.2.2.2.2.2.2.2.2.2.2.2.2.2.2.2.2.2.2.2.1
  refine ⟨hsc, fun s hs hu => ?_, fun s hs => ?_, eh, fun s hs hu => ?_, hbl, ed, el, fun s hs => ?_, fun s hs => ?_, fun s hs => ?_, fun s hs => ?_, fun s hs => ?_, fun k hk => ?_, fun k hk => ?_, ?_, ?_, fun s hs => ?_, fun k hk => ?_, hlt, ?_, es, hnw⟩
  · rw [n46]
    exact KFr_fr hF (dj_sub hD (by decide)) (h.2.1 s hs (f52 s hu))
  · rw [n78]
    exact KHd_fr hF (dj_sub hD (by decide)) (h.2.2.1 s hs)
  · rw [n151]
    exact KRq_fr hF (dj_sub hD (by decide)) (h.2.2.2.2.1 s hs (f52 s hu))
  · exact KG_fr hF (dj_sub hD (by decide)) (h.2.2.2.2.2.2.2.2.1 s hs)
  · exact KPg_fr hF (dj_sub hD (by decide)) (h.2.2.2.2.2.2.2.2.2.1 s hs)
  · exact KCh_fr hF (dj_sub hD (by decide)) (h.2.2.2.2.2.2.2.2.2.2.1 s hs)
  · exact KMc_fr hF (dj_sub hD (by decide)) (h.2.2.2.2.2.2.2.2.2.2.2.1 s hs)
  · rw [n69, n70]
    exact KPc_fr hF (dj_sub hD (by decide)) (h.2.2.2.2.2.2.2.2.2.2.2.2.1 s hs)
  · rw [n124, n137, n131, n130]
    exact KCl_fr hF (dj_sub hD (by decide)) (h.2.2.2.2.2.2.2.2.2.2.2.2.2.1 k hk)
  · exact KDn_fr hF (dj_sub hD (by decide)) (h.2.2.2.2.2.2.2.2.2.2.2.2.2.2.1 k hk)
  · exact KAk_fr hF (dj_sub hD (by decide)) h.2.2.2.2.2.2.2.2.2.2.2.2.2.2.2.1
  · exact KFc_fr hF (dj_sub hD (by decide)) h.2.2.2.2.2.2.2.2.2.2.2.2.2.2.2.2.1
  · rw [n145]
    exact KId_fr hF (dj_sub hD (by decide)) (h.2.2.2.2.2.2.2.2.2.2.2.2.2.2.2.2.2.1 s hs)
  · exact KIc_fr hF (dj_sub hD (by decide)) (h.2.2.2.2.2.2.2.2.2.2.2.2.2.2.2.2.2.2.1 k hk)
  · exact KRm_fr hF hT (dj_sub hD (by decide)) h.2.2.2.2.2.2.2.2.2.2.2.2.2.2.2.2.2.2.2.2.1
theorem mdOK_n {a : AA} {k : Nat} (h : mdOK a k) : 0 ≤ aS a 2 0 := by
  obtain ⟨m, m1, m2⟩ := h
  rw [m1, Int32.le_iff_toInt_le, Int32.toInt_ofNat_of_lt (by omega)]
  have : (0 : Int32).toInt = 0 := by decide
  omega
/-- a bell is set -/
theorem RC_bell {c : CS} {a : AA} {v : CV} {b : Nat} {t : Int32} (h : RC c a v) (hb : b < 23) (hm : mdOK a 0) (ht : 0 ≤ t) : RC (csI (csI c 14 0 10 b t) 14 0 11 b (aS a 2 0)) (aBellS a b t) v := by
  have hF : Ck ([32 * 14 + 10] ++ [32 * 14 + 11]) 0 c (csI (csI c 14 0 10 b t) 14 0 11 b (aS a 2 0)) := Ck_t (Ck_I (Or.inl rfl)) (Ck_I (Or.inl rfl))
  have e : ∀ f, f ∉ [29, 30, 31, 32] → ∀ i, aS (aBellS a b t) f i = aS a f i := fun f hf i => aS_bell (by simpa using hf)
  refine RC_G h hF rfl e a2_bell.1 a2_bell.2 (by decide) (by decide) ?_ ?_ ?_
  · exact KSc_al (KSc_fr hF (by decide) h.1) (fun F hF' i => e F (fun z => by
      have := (by decide : ∀ F ∈ sT.map (fun x => x.1), F ∉ [29, 30, 31, 32]) F hF'
      exact this z) i)
  · intro x hx
    obtain ⟨b1, b2⟩ := bn_bell (a := a) (b := b) (x := x) (t := t) hb hx
    rw [b1, b2]
    by_cases q : x = b
    · subst q
      rw [if_pos rfl, if_pos rfl, csI_f (by decide), csI_e, csI_e]
      exact ⟨fun _ => ⟨ht, rfl, rfl⟩, fun z => absurd (mdOK_n hm) (by rw [i_nle]; exact z)⟩
    · have e10 : cI (csI (csI c 14 0 10 b t) 14 0 11 b (aS a 2 0)) 14 0 10 x = cI c 14 0 10 x := (csI_j q).trans (csI_j q)
      have e11 : cI (csI (csI c 14 0 10 b t) 14 0 11 b (aS a 2 0)) 14 0 11 x = cI c 14 0 11 x := (csI_j q).trans (csI_j q)
      rw [if_neg q, if_neg q, e10, e11]
      exact h.2.2.2.2.2.1 x hx
  · have := h.2.2.2.2.2.2.2.2.2.2.2.2.2.2.2.2.2.2.2.2.2.2
    unfold nwOK aNow at this ⊢
    simp only [e 1 (by decide), e 72 (by decide), e 71 (by decide), e 27 (by decide)]
    exact this
/-- setBell with the next number -/
theorem K_setBell {c : CS} {a : AA} {v : CV} {b : Nat} {t : Int32} (h : RC c a v) (hb : b < 23) (hm : mdOK a 0) (ht : 0 ≤ t) : WP (k_World_setBell c 0 (Int32.ofNat b) t) (fun c' => RC c' (aAdd (aBellS a b t) 2 0 1) v) := by
  unfold k_World_setBell k_World_setBell_b0
  refine WP_eq (cwr_n rfl (show b < 23 from hb) (by omega)) (WP_eq (cwr_n rfl (show b < 23 from hb) (by omega)) ?_)
  rw [csI_f (f := 10) (by decide), K_r h (F := 2) (cl := 14) (f := 1) (by decide) (by decide)]
  have h1 := RC_bell h hb hm ht
  refine WP_b (WP_some ?_)
  rw [K_r h1 (F := 2) (cl := 14) (f := 1) (by decide) (by decide)]
  exact RC_I h1 (by decide) (by decide)
theorem A_alarm_b {a : AA} {e : Nat} {t : Int32} (he : e < 16) : A_alarm a e t = aAdd (aBellS a e t) 2 0 1 := by
  unfold A_alarm aBellS
  rw [if_pos he]
theorem K_alarm {c : CS} {a : AA} {v : CV} {e : Nat} {t : Int32} (h : RC c a v) (he : e < 16) (hm : mdOK a 0) (ht : 0 ≤ t) : WP (k_World_setBell c 0 (Int32.ofNat e) t) (fun c' => RC c' (A_alarm a e t) v) := by
  rw [A_alarm_b he]
  exact K_setBell h (by omega) hm ht
theorem RC_J84 {c : CS} {a : AA} {v : CV} {s : Nat} {x : Int64} (h : RC c a v) : RC (csJ c 14 0 14 s x) (aJ a 84 s x) v := by
  have hF : Ck [32 * 14 + 14] 0 c (csJ c 14 0 14 s x) := Ck_J (Or.inl rfl)
  have hd : KDa (csJ c 14 0 14 s x) (aJ a 84 s x) := by
    obtain ⟨d1, d2, d3, d4⟩ := h.2.2.2.2.2.2.1
    refine ⟨d1, d2, fun t ht => ?_, ?_⟩
    · show (if 14 = 14 ∧ 0 = 0 ∧ 14 = 14 ∧ t = s then x else cJ c 14 0 14 t) = (if 84 = 84 ∧ t = s then x else a.1.2 84 t)
      by_cases q : t = s
      · rw [if_pos ⟨rfl, rfl, rfl, q⟩, if_pos ⟨rfl, q⟩]
      · rw [if_neg (fun z => q z.2.2.2), if_neg (fun z => q z.2)]
        exact d3 t ht
    · have e1 : cJ (csJ c 14 0 14 s x) 14 0 9 0 = cJ c 14 0 9 0 := rfl
      have e2 : (aJ a 84 s x).1.2 28 0 = a.1.2 28 0 := rfl
      rw [e1, e2]
      exact d4
  exact ⟨h.1, fun s hs hu => KFr_fr hF (by decide) (h.2.1 s hs hu), fun s hs => KHd_fr hF (by decide) (h.2.2.1 s hs), fun s hs hr => KLd_fr hF (by decide) (h.2.2.2.1 s hs hr), fun s hs hu => KRq_fr hF (by decide) (h.2.2.2.2.1 s hs hu), KBl_fr hF (by decide) h.2.2.2.2.2.1, hd, fun s hs => KLw_fr hF (by decide) (h.2.2.2.2.2.2.2.1 s hs), fun s hs => KG_fr hF (by decide) (h.2.2.2.2.2.2.2.2.1 s hs), fun s hs => KPg_fr hF (by decide) (h.2.2.2.2.2.2.2.2.2.1 s hs), fun s hs => KCh_fr hF (by decide) (h.2.2.2.2.2.2.2.2.2.2.1 s hs), fun s hs => KMc_fr hF (by decide) (h.2.2.2.2.2.2.2.2.2.2.2.1 s hs), fun s hs => KPc_fr hF (by decide) (h.2.2.2.2.2.2.2.2.2.2.2.2.1 s hs), fun k hk => KCl_fr hF (by decide) (h.2.2.2.2.2.2.2.2.2.2.2.2.2.1 k hk), fun k hk => KDn_fr hF (by decide) (h.2.2.2.2.2.2.2.2.2.2.2.2.2.2.1 k hk), KAk_fr hF (by decide) h.2.2.2.2.2.2.2.2.2.2.2.2.2.2.2.1, KFc_fr hF (by decide) h.2.2.2.2.2.2.2.2.2.2.2.2.2.2.2.2.1, fun s hs => KId_fr hF (by decide) (h.2.2.2.2.2.2.2.2.2.2.2.2.2.2.2.2.2.1 s hs), fun k hk => KIc_fr hF (by decide) (h.2.2.2.2.2.2.2.2.2.2.2.2.2.2.2.2.2.2.1 k hk), KLt_fr hF rfl (by decide) h.2.2.2.2.2.2.2.2.2.2.2.2.2.2.2.2.2.2.2.1, KRm_fr hF rfl (by decide) h.2.2.2.2.2.2.2.2.2.2.2.2.2.2.2.2.2.2.2.2.1, h.2.2.2.2.2.2.2.2.2.2.2.2.2.2.2.2.2.2.2.2.2.1, h.2.2.2.2.2.2.2.2.2.2.2.2.2.2.2.2.2.2.2.2.2.2⟩
/-- what is drawn of a row is below a number -/
theorem aRnd_b {x : Int64} {m : Nat} (hm : 0 < m) (hm2 : m ≤ 2000) : 0 ≤ (aRnd x (Int64.ofNat m)).toInt ∧ (aRnd x (Int64.ofNat m)).toInt < m := by
  have hu : (x.toUInt64 >>> 33).toNat < 2147483648 := by
    rw [UInt64.toNat_shiftRight, show (33 : UInt64).toNat % 64 = 33 by decide, Nat.shiftRight_eq_div_pow]
    have := x.toUInt64.toNat_lt
    exact Nat.div_lt_of_lt_mul (by omega)
  obtain ⟨q, e, hq⟩ : ∃ q : Nat, (x.toUInt64 >>> 33).toInt64 = Int64.ofNat q ∧ q < 2147483648 := by
    refine ⟨_, ?_, hu⟩
    apply Int64.toInt_inj.mp
    rw [Int64.toInt_ofNat_of_lt (by omega)]
    show (x.toUInt64 >>> 33).toBitVec.toInt = _
    rw [BitVec.toInt_eq_toNat_of_lt (by
      show 2 * (x.toUInt64 >>> 33).toNat < _
      omega)]
    rfl
  have ev : aRnd x (Int64.ofNat m) = Int32.ofNat (q % m) := by
    have h7 : q % m < m := Nat.mod_lt _ hm
    unfold aRnd
    rw [e]
    have e1 : (Int64.ofNat q / Int64.ofNat m) = Int64.ofNat (q / m) := by
      apply Int64.toInt_inj.mp
      have hle : q / m ≤ q := Nat.div_le_self _ _
      rw [Int64.toInt_div_of_ne_right _ _ (by
        intro z
        have := congrArg Int64.toInt z
        rw [Int64.toInt_ofNat_of_lt (by omega), show (-1 : Int64).toInt = -1 by decide] at this
        omega), Int64.toInt_ofNat_of_lt (by omega), Int64.toInt_ofNat_of_lt (by omega), Int64.toInt_ofNat_of_lt (by omega)]
      rfl
    have e2 : Int64.ofNat q - Int64.ofNat q / Int64.ofNat m * Int64.ofNat m = Int64.ofNat (q % m) := by
      rw [e1, ← Int64.ofNat_mul]
      have h1 := Nat.div_add_mod q m
      have h2 : q = q % m + q / m * m := by
        rw [Nat.mul_comm (q / m)]
        omega
      have h3 : Int64.ofNat q = Int64.ofNat (q % m) + Int64.ofNat (q / m * m) := by
        rw [← Int64.ofNat_add, ← h2]
      rw [h3]
      exact Int64.add_sub_cancel _ _
    apply Int32.toInt_inj.mp
    rw [e2, Int32.toInt_ofNat_of_lt (by omega), Int64.toInt_toInt32, Int64.toInt_ofNat_of_lt (by omega)]
    have : ((q % m : Nat) : Int).bmod (2 ^ 32) = ((q % m : Nat) : Int) := by
      rw [Int.bmod_eq_of_le (by omega) (by omega)]
    exact this
  have h7 : q % m < m := Nat.mod_lt _ hm
  rw [ev, Int32.toInt_ofNat_of_lt (by omega)]
  omega
theorem now_add {a : AA} {y : Int32} (h : nwOK a) (hy : 0 ≤ y.toInt) (hy2 : y.toInt ≤ 10000) : 0 ≤ aNow a + y := by
  obtain ⟨h1, h2, _⟩ := h
  have e0 : (0 : Int32).toInt = 0 := by decide
  rw [Int32.le_iff_toInt_le, e0, i_addI (by omega) (by omega)]
  omega
theorem K_drawAlarm {c : CS} {a : AA} {v : CV} {s : Nat} (h : RC c a v) (hs : s < 7) (hm : mdOK a 0) : WP (k_World_drawAlarm c 0 (Int32.ofNat s)) (fun c' => RC c' (A_drawAlarm a s) v) := by
  unfold k_World_drawAlarm k_World_drawAlarm_b0 A_drawAlarm
  refine WP_eq (crdJ_n rfl (show s < 7 from hs) (by omega)) (WP_eq (cwrJ_n rfl (show s < 7 from hs) (by omega)) (WP_eq (crdJ_n rfl (show s < 7 from hs) (by omega)) ?_))
  have e : cJ (csJ c 14 0 14 s (cJ c 14 0 14 s * 6364136223846793005 + 1442695040888963407)) 14 0 14 s = cJ c 14 0 14 s * 6364136223846793005 + 1442695040888963407 := if_pos ⟨rfl, rfl, rfl, rfl⟩
  rw [if_neg (by decide), e, h.2.2.2.2.2.2.1.2.2.1 s hs]
  have h1 : RC (csJ c 14 0 14 s (aLcg (a.1.2 84 s))) (aJ a 84 s (aLcg (a.1.2 84 s))) v := RC_J84 h
  have en : cI (csJ c 14 0 14 s (aLcg (a.1.2 84 s))) 14 0 0 0 = aNow (aJ a 84 s (aLcg (a.1.2 84 s))) := K_r h1 (F := 1) (cl := 14) (f := 0) (by decide) (by decide)
  have b := aRnd_b (x := aLcg (a.1.2 84 s)) (m := 50) (by decide) (by decide)
  have bt : 0 ≤ aNow a + 50 + aRnd (aLcg (a.1.2 84 s)) 50 := by
    have e5 : (50 : Int32).toInt = 50 := by decide
    have e6 : (50 + aRnd (aLcg (a.1.2 84 s)) 50).toInt = 50 + (aRnd (aLcg (a.1.2 84 s)) 50).toInt := by
      have b' : 0 ≤ (aRnd (aLcg (a.1.2 84 s)) 50).toInt ∧ (aRnd (aLcg (a.1.2 84 s)) 50).toInt < 50 := b
      rw [i_addI (by omega) (by omega), e5]
    have b' : 0 ≤ (aRnd (aLcg (a.1.2 84 s)) 50).toInt ∧ (aRnd (aLcg (a.1.2 84 s)) 50).toInt < 50 := b
    rw [Int32.add_assoc]
    exact now_add h.2.2.2.2.2.2.2.2.2.2.2.2.2.2.2.2.2.2.2.2.2.2 (by omega) (by omega)
  refine WP_call (Q1 := fun c' => RC c' (A_alarm (aJ a 84 s (aLcg (a.1.2 84 s))) s (aNow a + 50 + aRnd (aLcg (a.1.2 84 s)) 50)) v) ?_ (fun c' h' => WP_some h')
  have k := K_alarm (t := aNow a + 50 + aRnd (aLcg (a.1.2 84 s)) 50) h1 (show s < 16 by omega) hm bt
  have ee : cI (csJ c 14 0 14 s (aLcg (a.1.2 84 s))) 14 0 0 0 + 50 + aRnd (aLcg (a.1.2 84 s)) 50 = aNow a + 50 + aRnd (aLcg (a.1.2 84 s)) 50 := by rw [en]; rfl
  rw [← ee] at k
  rw [← ee]
  exact k
/-- dirty and its sync -/
theorem K_soil {c : CS} {a : AA} {v : CV} {s : Nat} (h : RC c a v) (hs : s < 7) (hm : mdOK a 0) : WP (k_Server_soil c s) (fun c' => RC c' (aSoil a s) v) := by
  unfold k_Server_soil k_Server_soil_b0 k_Server_soil_b46 aSoil
  rw [K_r h (F := 71) (cl := 13) (f := 9) (by decide) hs]
  refine WP_if c0_ne (fun q => ?_) (fun q => ?_)
  · rw [if_neg q]
    exact WP_some h
  · have q' := Classical.not_not.mp q
    rw [if_pos q']
    unfold cputZ
    rw [if_pos (Or.inr rfl)]
    refine WP_b ?_
    have h1 : RC (csI c 13 s 9 0 1) (aI a 71 s 1) v := by
      have hF : Ck [32 * 13 + 9] s c (csI c 13 s 9 0 1) := Ck_I (Or.inr rfl)
      refine RC_G (W := [71]) h hF rfl (fun f hf i => aS_If (by simpa using hf)) rfl rfl (by decide) (by decide) (KSc_I (by decide) h.1) ?_ ?_
      · have := KBl_fr hF (by decide) h.2.2.2.2.2.1
        unfold KBl aBn aBt at this ⊢
        simp only [aS_If (show (29 : Nat) ≠ 71 by decide), aS_If (show (30 : Nat) ≠ 71 by decide), aS_If (show (31 : Nat) ≠ 71 by decide), aS_If (show (32 : Nat) ≠ 71 by decide)]
        exact this
      · have n := h.2.2.2.2.2.2.2.2.2.2.2.2.2.2.2.2.2.2.2.2.2.2
        unfold nwOK aNow at n ⊢
        simp only [aS_If (show (1 : Nat) ≠ 71 by decide), aS_If (show (72 : Nat) ≠ 71 by decide), aS_If (show (27 : Nat) ≠ 71 by decide)]
        refine ⟨n.1, n.2.1, n.2.2.1, fun t ht => ?_, n.2.2.2.2⟩
        rw [aS_I]
        split
        · exact Or.inr rfl
        · exact n.2.2.2.1 t ht
    have i1 : cI (csI c 13 s 9 0 1) 13 s 0 0 = Int32.ofNat s := (h1.2.2.2.2.2.2.2.2.2.2.2.2.2.2.2.2.2.1 s hs).1
    rw [i1]
    refine WP_eq (crd_n rfl (show s < 7 from hs) (by omega)) ?_
    rw [h1.2.2.2.2.2.2.1.2.1 s hs, K_r h1 (F := 1) (cl := 14) (f := 0) (by decide) (by decide), show (16 : Int32) + Int32.ofNat s = Int32.ofNat (16 + s) from i_ad (c := 16)]
    have hb : 0 ≤ aNow a + aS a 72 s := by
      have l := h.2.2.2.2.2.2.2.2.2.2.2.2.2.2.2.2.2.2.2.2.2.2.2.2.1 s hs
      rw [Int32.le_iff_toInt_le, Int32.le_iff_toInt_le] at l
      have e0 : (0 : Int32).toInt = 0 := by decide
      have e1 : (1000 : Int32).toInt = 1000 := by decide
      exact now_add h.2.2.2.2.2.2.2.2.2.2.2.2.2.2.2.2.2.2.2.2.2.2 (by omega) (by omega)
    have e72 : aS (aI a 71 s 1) 72 s = aS a 72 s := aS_If (by decide)
    have e1 : aS (aI a 71 s 1) 1 0 = aNow a := aS_If (by decide)
    have e2 : aS (aI a 71 s 1) 2 0 = aS a 2 0 := aS_If (by decide)
    rw [e72, e1]
    refine WP_call (Q1 := fun c' => RC c' (aAdd (aI (aI (aI a 71 s 1) 32 s (aNow a + aS a 72 s)) 31 s (aS a 2 0)) 2 0 1) v) ?_ (fun c' h' => WP_some h')
    have hm1 : mdOK (aI a 71 s 1) 0 := by
      obtain ⟨m, m1, m2⟩ := hm
      exact ⟨m, e2.trans m1, m2⟩
    have k := K_setBell (b := 16 + s) (t := aNow a + aS a 72 s) h1 (by omega) hm1 hb
    have eb : aBellS (aI a 71 s 1) (16 + s) (aNow a + aS a 72 s) = aI (aI (aI a 71 s 1) 32 s (aNow a + aS a 72 s)) 31 s (aS a 2 0) := by
      unfold aBellS
      rw [if_neg (by omega), show 16 + s - 16 = s by omega, e2]
    rw [eb] at k
    exact k
