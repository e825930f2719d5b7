/-! clients hear -/
theorem now_t {c : CS} {a : AA} {v : CV} {t : Int32} (h : RC c a v) (h0 : 0 ≤ t.toInt) (h1 : t.toInt ≤ 1000) : 0 ≤ aNow a + t := by
  have n1 := (h.2.2.2.2.2.2.2.2.2.2.2.2.2.2.2.2.2.2.2.2.2.2).1
  have n2 := (h.2.2.2.2.2.2.2.2.2.2.2.2.2.2.2.2.2.2.2.2.2.2).2.1
  rw [Int32.le_iff_toInt_le, i_addI (by omega) (by omega), i_0]
  omega
theorem RC_dn {c c' : CS} {a : AA} {v : CV} {k : Nat} {t : List Int32} (h : RC c a v) (P : PX 5 k [12, 13] c c') (hd : KDn c' k t) : RC c' (aDnS a k t) v := by
  have hF : Ck [172, 173] k c c' := PX_k P (Or.inr rfl) (by decide)
  have hT := P.2.1
  have hdn : ∀ i, i < 8 → KDn c' i (aDn (aDnS a k t) i) := by
    intro i hi
    have e : aDn (aDnS a k t) i = if i = k then t else aDn a i := rfl
    rw [e]
    by_cases q : i = k
    · rw [if_pos q, q]
      exact hd
    · rw [if_neg q]
      exact KDn_ne hF (by decide) q (h.2.2.2.2.2.2.2.2.2.2.2.2.2.2.1 i hi)
  exact ⟨KSc_fr hF (by decide) h.1, fun s hs hu => KFr_fr hF (by decide) (h.2.1 s hs hu), fun s hs => KHd_fr hF (by decide) (h.2.2.1 s hs), fun s hs hr => KLd_fr hF (by decide) (h.2.2.2.1 s hs hr), fun s hs hu => KRq_fr hF (by decide) (h.2.2.2.2.1 s hs hu), KBl_fr hF (by decide) h.2.2.2.2.2.1, KDa_fr hF (by decide) h.2.2.2.2.2.2.1, fun s hs => KLw_fr hF (by decide) (h.2.2.2.2.2.2.2.1 s hs), fun s hs => KG_fr hF (by decide) (h.2.2.2.2.2.2.2.2.1 s hs), fun s hs => KPg_fr hF (by decide) (h.2.2.2.2.2.2.2.2.2.1 s hs), fun s hs => KCh_fr hF (by decide) (h.2.2.2.2.2.2.2.2.2.2.1 s hs), fun s hs => KMc_fr hF (by decide) (h.2.2.2.2.2.2.2.2.2.2.2.1 s hs), fun s hs => KPc_fr hF (by decide) (h.2.2.2.2.2.2.2.2.2.2.2.2.1 s hs), fun k hk => KCl_fr hF (by decide) (h.2.2.2.2.2.2.2.2.2.2.2.2.2.1 k hk), hdn, KAk_fr hF (by decide) h.2.2.2.2.2.2.2.2.2.2.2.2.2.2.2.1, KFc_fr hF (by decide) h.2.2.2.2.2.2.2.2.2.2.2.2.2.2.2.2.1, fun s hs => KId_fr hF (by decide) (h.2.2.2.2.2.2.2.2.2.2.2.2.2.2.2.2.2.1 s hs), fun k hk => KIc_fr hF (by decide) (h.2.2.2.2.2.2.2.2.2.2.2.2.2.2.2.2.2.2.1 k hk), KLt_fr hF hT (by decide) h.2.2.2.2.2.2.2.2.2.2.2.2.2.2.2.2.2.2.2.1, KRm_fr hF hT (by decide) h.2.2.2.2.2.2.2.2.2.2.2.2.2.2.2.2.2.2.2.2.1, h.2.2.2.2.2.2.2.2.2.2.2.2.2.2.2.2.2.2.2.2.2.1, h.2.2.2.2.2.2.2.2.2.2.2.2.2.2.2.2.2.2.2.2.2.2⟩
theorem K_hearElse {F : Nat} {c : CS} {a : AA} {k j : Nat} {x : Int32} {H : List (Nat × Option AL)} {U : Nat → Int32} {N : Nat × Nat} (hF : 130 ≤ F) (h : RC c a ((H, U), N)) (hk : k < 8) (hb : ¬ aS a 124 k = 0) (hj : aS a 137 k = Int32.ofNat j) (hl : j < (aAk a).length) (hm : mdOK a 4) (hto : aInR (aS a 125 k) 0 6 = true) (hx : x < 7) (hH : H.length ≤ 5) : WP (k_Client_hearElsewhere F c k x) (fun c' => RC c' (if 0 ≤ x then A_demand (aI a 125 k x) k else A_pause (aTurn a k) k 5) ((H, U), N)) := by
  unfold k_Client_hearElsewhere k_Client_hearElsewhere_b0 k_Client_hearElsewhere_b22 k_Client_hearElsewhere_b32
  refine WP_if c0_lt (fun z => ?_) (fun z => ?_)
  · have z : x < 0 := z
    rw [if_neg (Int32.not_le.mpr z)]
    refine WP_call (K_turn h hk hto) (fun c1 h1 => ?_)
    have fr : AFr [125] [] a (aTurn a k) := AFr_I
    exact WP_call (K_setAl (t := 5) (x := 0) h1 hk (mdOK_w (mdOK_s hm (fr.1 2 (by decide) 0)) (by omega)) (now_t h1 (by decide) (by decide)) (Or.inl rfl)) (fun c2 h2 => WP_some h2)
  · have z : 0 ≤ x := Int32.not_lt.mp z
    rw [if_pos z]
    refine WP_if c2_ge (fun y => absurd hx (Int32.not_lt.mpr y)) (fun _ => WP_b ?_)
    have h1 := RC_I (x := x) h (F := 125) (cl := 5) (f := 4) (i := k) (by decide) (by decide)
    have fr : AFr [125] [] a (aI a 125 k x) := AFr_I
    have ex : aS (aI a 125 k x) 125 k = x := if_pos ⟨rfl, rfl⟩
    refine WP_call (K_demand hF h1 hk (by rw [fr.1 124 (by decide)]; exact hb) ((fr.1 137 (by decide) k).trans hj) hl (mdOK_s hm (fr.1 2 (by decide) 0)) ?_ hH) (fun c2 h2 => WP_some h2)
    rw [ex]
    unfold aInR
    rw [Bool.and_eq_true_iff, decide_eq_true_eq, decide_eq_true_eq]
    refine ⟨z, ?_⟩
    rw [Int32.lt_iff_toInt_lt, show (7 : Int32).toInt = 7 by decide] at hx
    rw [Int32.le_iff_toInt_le, show (6 : Int32).toInt = 6 by decide]
    omega
theorem K_hearDone {F : Nat} {c : CS} {a : AA} {k j ad : Nat} {l : AL} {H : List (Nat × Option AL)} {U : Nat → Int32} {N : Nat × Nat} (hF : 130 ≤ F) (h : RC c a (((ad, some l) :: H, U), N)) (hk : k < 8) (hb : ¬ aS a 124 k = 0) (hj : aS a 137 k = Int32.ofNat j) (hl : j < (aAk a).length) (hm : mdOK a 4) (hto : aInR (aS a 125 k) 0 6 = true) (h11 : l.1 4 = 11) (h6 : l.1 6 = 0) (hH : H.length ≤ 4) : WP (k_Client_hearDone F c k ad) (fun c' => RC c' (if aS a 131 k = 0 then aTellClient (aDnS a k l.2.2.1) k 1 (l.1 7) else A_demand (aAdd (aI (aI (aI a 131 k 0) 126 k (l.1 7)) 127 k 1) 128 k 1) k) (((ad, some l) :: H, U), N)) := by
  have l0 := RC_hand h List.mem_cons_self
  obtain ⟨g7, g17, glen, gb⟩ := l0.2.2.2.2 h11
  have e7 := g7 (Or.inl h6)
  unfold k_Client_hearDone k_Client_hearDone_b0
  rw [(K_busy h hk hb).2.1]
  refine WP_if c0_eq (fun z => ?_) (fun z => ?_)
  · have z : aS a 131 k = 0 := z
    rw [if_pos z]
    have ecal : cal c 5 k 12 = 134 := rfl
    have emin : cmin (cI c 8 ad 17 0) (Int32.ofNat (cal c 5 k 12)) = Int32.ofNat l.2.2.1.length := by
      rw [g17, ecal]
      unfold cmin
      exact if_neg (by rw [Int32.lt_iff_toInt_lt, Int32.toInt_ofNat_of_lt (by omega), Int32.toInt_ofNat_of_lt (by omega)]; omega)
    rw [emin]
    refine WP_b ?_
    rw [show cI (csI c 5 k 13 0 (Int32.ofNat l.2.2.1.length)) 5 k 13 0 = Int32.ofNat l.2.2.1.length from csI_e]
    refine WP_eq (ccpy_n (s := 0) (t := 0) (n := l.2.2.1.length) rfl rfl rfl (show 0 + l.2.2.1.length ≤ 200 by omega) (show 0 + l.2.2.1.length ≤ 134 by omega) (by omega) (by omega)) ?_
    have P : PX 5 k [12, 13] c (csA (csI c 5 k 13 0 (Int32.ofNat l.2.2.1.length)) 5 k 12 (fun w => if 0 ≤ w ∧ w < 0 + l.2.2.1.length then cI (csI c 5 k 13 0 (Int32.ofNat l.2.2.1.length)) 8 ad 19 (0 + (w - 0)) else cI (csI c 5 k 13 0 (Int32.ofNat l.2.2.1.length)) 5 k 12 w)) := PX_t (PX_I (by decide)) (PX_A (by decide))
    have hd : KDn (csA (csI c 5 k 13 0 (Int32.ofNat l.2.2.1.length)) 5 k 12 (fun w => if 0 ≤ w ∧ w < 0 + l.2.2.1.length then cI (csI c 5 k 13 0 (Int32.ofNat l.2.2.1.length)) 8 ad 19 (0 + (w - 0)) else cI (csI c 5 k 13 0 (Int32.ofNat l.2.2.1.length)) 5 k 12 w)) k l.2.2.1 := by
      refine ⟨(cI_Ao (by decide)).trans csI_e, glen, fun i hi => ?_⟩
      rw [cI_A, if_pos ⟨Nat.zero_le _, by omega⟩, csI_cl (by decide), show 0 + (i - 0) = i by omega]
      exact gb i hi
    have h1 := RC_dn h P hd
    generalize csA (csI c 5 k 13 0 (Int32.ofNat l.2.2.1.length)) 5 k 12 (fun w => if 0 ≤ w ∧ w < 0 + l.2.2.1.length then cI (csI c 5 k 13 0 (Int32.ofNat l.2.2.1.length)) 8 ad 19 (0 + (w - 0)) else cI (csI c 5 k 13 0 (Int32.ofNat l.2.2.1.length)) 5 k 12 w) = c1 at h1
    rw [(RC_hand h1 List.mem_cons_self).2.2.2.2 h11 |>.1 (Or.inl h6)]
    exact WP_call (K_beTold (j := j) h1 hk hb hj hl) (fun c2 h2 => WP_some h2)
  · have z : ¬ aS a 131 k = 0 := z
    rw [if_neg z]
    unfold cputZ
    rw [if_pos (Or.inl rfl)]
    refine WP_b ?_
    have h1 := RC_131 (k := k) (x := 0) h
    rw [show cI (csI c 5 k 10 0 0) 8 ad 7 0 = l.1 7 from (csI_cl (by decide)).trans e7]
    refine WP_b ?_
    have h2 := RC_I (x := l.1 7) h1 (F := 126) (cl := 5) (f := 5) (i := k) (by decide) (by decide)
    refine WP_b ?_
    have h3 := RC_I (x := 1) h2 (F := 127) (cl := 5) (f := 6) (i := k) (by decide) (by decide)
    rw [K_r h3 (F := 128) (cl := 5) (f := 7) (by decide) hk]
    have h4 := RC_I (x := aS (aI (aI (aI a 131 k 0) 126 k (l.1 7)) 127 k 1) 128 k + 1) h3 (F := 128) (cl := 5) (f := 7) (i := k) (by decide) (by decide)
    refine WP_b ?_
    have fr : AFr [131, 126, 127, 128] [] a (aAdd (aI (aI (aI a 131 k 0) 126 k (l.1 7)) 127 k 1) 128 k 1) := AFr_w (AFr_t (AFr_t (AFr_t AFr_I AFr_I) AFr_I) AFr_I) (by decide) (by decide)
    have h4 : RC (csI (csI (csI (csI c 5 k 10 0 0) 5 k 5 0 (l.1 7)) 5 k 6 0 1) 5 k 7 0 (aS (aI (aI (aI a 131 k 0) 126 k (l.1 7)) 127 k 1) 128 k + 1)) (aAdd (aI (aI (aI a 131 k 0) 126 k (l.1 7)) 127 k 1) 128 k 1) (((ad, some l) :: H, U), N) := h4
    exact WP_call (K_demand hF h4 hk (by rw [fr.1 124 (by decide)]; exact hb) ((fr.1 137 (by decide) k).trans hj) hl (mdOK_s hm (fr.1 2 (by decide) 0)) (by rw [fr.1 125 (by decide)]; exact hto) (by simpa using hH)) (fun c2 h2 => WP_some h2)
/-- a client hears -/
theorem K_hear {F : Nat} {c : CS} {a : AA} {k ad : Nat} {l : AL} {H : List (Nat × Option AL)} {U : Nat → Int32} {N : Nat × Nat} (hF : 130 ≤ F) (h : RC c a (((ad, some l) :: H, U), N)) (hk : k < 8) (hj : ¬ aS a 124 k = 0 → ∃ j, aS a 137 k = Int32.ofNat j ∧ j < (aAk a).length) (hm : mdOK a 4) (hto : aInR (aS a 125 k) 0 6 = true) (h11 : l.1 4 = 11) (h7 : l.1 6 = 1 → l.1 7 < 7) (h2 : ¬ aS a 124 k = 0 → l.1 5 = aS a 128 k → l.1 6 = 2 → aCmd a k = true) (hH : H.length ≤ 4) : WP (k_Client_hear F c k ad) (fun c' => RC c' (A_hear a k l) (((ad, some l) :: H, U), N)) := by
  have l0 := RC_hand h List.mem_cons_self
  have e5 : cI c 8 ad 5 0 = l.1 5 := l0.1 5 (by decide)
  have e6 : cI c 8 ad 6 0 = l.1 6 := LR_f l0 h11 (by rw [lF11]; decide)
  unfold k_Client_hear k_Client_hear_b0 k_Client_hear_b18 k_Client_hear_b81 A_hear
  rw [K_r h (F := 124) (cl := 5) (f := 3) (by decide) hk, e5, K_r h (F := 128) (cl := 5) (f := 7) (by decide) hk, e6]
  refine WP_if c0_eq (fun z => ?_) (fun z => ?_)
  · rw [if_pos (Or.inl z)]
    exact WP_some h
  · have z : ¬ aS a 124 k = 0 := z
    obtain ⟨j, hj, hl⟩ := hj z
    refine WP_if c2_eq (fun y => ?_) (fun y => ?_)
    · have y : l.1 5 = aS a 128 k := y
      rw [if_neg (show ¬ (aS a 124 k = 0 ∨ ¬ l.1 5 = aS a 128 k) from fun w => w.elim z (fun w => w y))]
      by_cases q0 : l.1 6 = 0
      · rw [if_pos q0, if_pos q0]
        exact WP_call (K_hearDone hF h hk z hj hl hm hto h11 q0 hH) (fun c1 h1 => WP_some h1)
      · rw [if_neg q0, if_neg q0]
        by_cases q1 : l.1 6 = 1
        · rw [if_pos q1, if_pos q1, (l0.2.2.2.2 h11).1 (Or.inr q1)]
          exact WP_call (K_hearElse hF h hk z hj hl hm hto (h7 q1) (by simpa using hH)) (fun c1 h1 => WP_some h1)
        · rw [if_neg q1, if_neg q1]
          by_cases q2 : l.1 6 = 2
          · rw [if_pos q2, if_pos q2]
            have e : A_resign a k = aTellClient (aI a 126 k (-1)) k 2 (-1) := if_pos (h2 z y q2)
            rw [← e]
            exact WP_call (K_giveIn h hk z hj hl) (fun c1 h1 => WP_some h1)
          · rw [if_neg q2, if_neg q2]
            exact WP_call (K_setAl (t := 20) (x := 0) h hk (mdOK_w hm (by omega)) (now_t h (by decide) (by decide)) (Or.inl rfl)) (fun c1 h1 => WP_some h1)
    · rw [if_pos (show aS a 124 k = 0 ∨ ¬ l.1 5 = aS a 128 k from Or.inr y)]
      exact WP_some h
