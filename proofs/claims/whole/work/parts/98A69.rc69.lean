/-! clients: told, giving in, requests -/
theorem tell_e {a : AA} {k : Nat} {x y : Int32} : aTellClient a k x y = aAdd (aAkS (aI (aI a 124 k 0) 29 (8 + k) (-1)) ((aAk a).set (aS a 137 k).toNatClampNeg (aU (aU (aU ((aAk a).getD (aS a 137 k).toNatClampNeg (fun _ => 0, [])).1 3 (aS a 141 0)) 4 x) 5 y, ((aAk a).getD (aS a 137 k).toNatClampNeg (fun _ => 0, [])).2))) 141 0 1 := by
  unfold aTellClient
  dsimp only
  generalize (aAk a).set (aS a 137 k).toNatClampNeg (aU (aU (aU ((aAk a).getD (aS a 137 k).toNatClampNeg (fun _ => 0, [])).1 3 (aS a 141 0)) 4 x) 5 y, ((aAk a).getD (aS a 137 k).toNatClampNeg (fun _ => 0, [])).2) = S
  unfold aAdd
  have e : aAkS (aI (aI a 124 k 0) 29 (8 + k) (-1)) S = aI (aI (aAkS a S) 124 k 0) 29 (8 + k) (-1) := rfl
  rw [e]
  generalize aAkS a S = B
  have e1 : aS (aI (aI B 124 k 0) 29 (8 + k) (-1)) 141 0 = aS B 141 0 := (aS_If (by decide)).trans (aS_If (by decide))
  rw [e1, aI_comm (a := B) (f := 141) (g := 124) (fun z => absurd z.1 (by decide)), aI_comm (f := 141) (g := 29) (fun z => absurd z.1 (by decide))]
theorem K_beTold {c : CS} {a : AA} {v : CV} {k j : Nat} {x y : Int32} (h : RC c a v) (hk : k < 8) (hb : ¬ aS a 124 k = 0) (hj : aS a 137 k = Int32.ofNat j) (hl : j < (aAk a).length) : WP (k_Client_beTold c k x y) (fun c' => RC c' (aTellClient a k x y) v) := by
  have h1024 := (h.2.2.2.2.2.2.2.2.2.2.2.2.2.2.2.1).2.1
  have e9 : cI c 5 k 9 0 = Int32.ofNat j := (K_busy h hk hb).1.trans hj
  have e0 : cI c 5 k 0 0 = Int32.ofNat (8 + k) := h.2.2.2.2.2.2.2.2.2.2.2.2.2.2.2.2.2.2.1 k hk
  have c0 : (0 : Int32) = 0 ∨ (0 : Int32) = 1 := Or.inl rfl
  unfold k_Client_beTold k_Client_beTold_b0 cputZ
  rw [if_pos c0]
  refine WP_b ?_
  rw [if_pos c0]
  refine WP_b ?_
  rw [if_pos c0]
  refine WP_b ?_
  have i124 : aS (aI a 124 k 0) 124 k = 0 := if_pos ⟨rfl, rfl⟩
  have h3 := RC_zcl (k := k) (f := 11) (x := 0) (Or.inr (Or.inr rfl)) (RC_zcl (k := k) (f := 10) (x := 0) (Or.inr (Or.inl rfl)) (RC_idle (k := k) h) i124) i124
  rw [show cI (csI (csI (csI c 5 k 3 0 0) 5 k 10 0 0) 5 k 11 0 0) 5 k 0 0 = Int32.ofNat (8 + k) from (csI_f (by decide)).trans ((csI_f (by decide)).trans ((csI_f (by decide)).trans e0))]
  have eh : k_World_hush (csI (csI (csI c 5 k 3 0 0) 5 k 10 0 0) 5 k 11 0 0) 0 (Int32.ofNat (8 + k)) = some (csI (csI (csI (csI c 5 k 3 0 0) 5 k 10 0 0) 5 k 11 0 0) 14 0 10 (8 + k) (-1)) := by
    unfold k_World_hush k_World_hush_b0
    rw [cwr_n rfl (show 8 + k < 23 by omega) (by omega)]
    rfl
  refine WP_eq eh ?_
  have h4 := RC_hush h3 (show 8 + k < 23 by omega)
  have eb : aHush (aI a 124 k 0) (8 + k) = aI (aI a 124 k 0) 29 (8 + k) (-1) := if_pos (by omega)
  rw [eb] at h4
  rw [show cI (csI (csI (csI (csI c 5 k 3 0 0) 5 k 10 0 0) 5 k 11 0 0) 14 0 10 (8 + k) (-1)) 5 k 9 0 = Int32.ofNat j from (csI_cl (by decide)).trans ((csI_f (by decide)).trans ((csI_f (by decide)).trans ((csI_f (by decide)).trans e9)))]
  refine WP_call (K_setTold (j := j) (x := x) (y := y) h4 hl) (fun c5 h5 => WP_some ?_)
  rw [tell_e, hj, i_cl (by omega)]
  have e141 : aS (aI (aI a 124 k 0) 29 (8 + k) (-1)) 141 0 = aS a 141 0 := (aS_If (by decide)).trans (aS_If (by decide))
  rw [e141] at h5
  exact h5
theorem K_giveIn {c : CS} {a : AA} {v : CV} {k j : Nat} (h : RC c a v) (hk : k < 8) (hb : ¬ aS a 124 k = 0) (hj : aS a 137 k = Int32.ofNat j) (hl : j < (aAk a).length) : WP (k_Client_giveIn c k) (fun c' => RC c' (A_resign a k) v) := by
  unfold k_Client_giveIn k_Client_giveIn_b0 k_Client_giveIn_b27 A_resign
  refine WP_eq (K_isCmd h hk hb hj hl) ?_
  by_cases q : aCmd a k = true
  · rw [if_pos q, q]
    refine WP_if c0_eq (fun z => absurd z (by decide)) (fun _ => WP_b ?_)
    have h1 := RC_I (x := -1) h (F := 126) (cl := 5) (f := 5) (i := k) (by decide) (by decide)
    exact WP_call (K_beTold (j := j) h1 hk (by rw [aS_If (by decide)]; exact hb) ((aS_If (by decide)).trans hj) hl) (fun c2 h2 => WP_some h2)
  · rw [if_neg q, show aCmd a k = false by simpa using q]
    refine WP_if c0_eq (fun _ => ?_) (fun z => absurd rfl z)
    exact WP_call (K_beTold h hk hb hj hl) (fun c2 h2 => WP_some h2)
/-- a request's letter -/
def rqL (k : Nat) (to tm x6 x14 x15 x16 x12 : Int32) : AL := (aU (aU (aU (aU (aU (aLet (Int32.ofNat (8 + k)) to 10 tm).1 6 x6) 14 x14) 15 x15) 16 x16) 12 x12, [], [], ([], []))
theorem end_c {k : Nat} (hk : k < 8) : aInR (Int32.ofNat (8 + k)) 8 15 = true := by
  unfold aInR
  exact (by decide +kernel : ∀ k, k < 8 → (decide ((8 : Int32) ≤ Int32.ofNat (8 + k)) && decide (Int32.ofNat (8 + k) ≤ 15)) = true) k hk
theorem K_rq174 {F : Nat} {c : CS} {a : AA} {k ad : Nat} {to tm x6 x14 x15 x16 x12 : Int32} {H : List (Nat × Option AL)} {U : Nat → Int32} {N : Nat × Nat} (hF : 130 ≤ F) (h : RC c a (((ad, none) :: H, U), N)) (hk : k < 8) (hm : mdOK a 4) (hto : aInR to 0 6 = true) (hH : H.length ≤ 5) (g2 : cI c 8 ad 2 0 = Int32.ofNat (8 + k)) (g3 : cI c 8 ad 3 0 = to) (g4 : cI c 8 ad 4 0 = 10) (g5 : cI c 8 ad 5 0 = tm) (g6 : cI c 8 ad 6 0 = x6) (g14 : cI c 8 ad 14 0 = x14) (g15 : cI c 8 ad 15 0 = x15) (g16 : cI c 8 ad 16 0 = x16) : WP (k_Client_sendRequest_b174 F c ad x12 k ad) (fun c' => RC c' (aI (A_alarm (A_sendOut a (rqL k to tm x6 x14 x15 x16 x12)) (8 + k) (aNow a + 60)) 130 k 1) ((H, U), N)) := by
  unfold k_Client_sendRequest_b174
  refine WP_b (WP_b ?_)
  have h2 := RC_I8 (ad := ad) (f := 17) (j := 0) (x := 0) (RC_I8 (ad := ad) (f := 12) (j := 0) (x := x12) h)
  have hl : LR (csI (csI c 8 ad 12 0 x12) 8 ad 17 0 0) ad (rqL k to tm x6 x14 x15 x16 x12) := by
    refine LR_mk ?_ ?_ ?_ ?_ ?_ ?_
    · exact (csI_f (by decide)).trans ((csI_f (by decide)).trans g2)
    · exact (csI_f (by decide)).trans ((csI_f (by decide)).trans g3)
    · exact (csI_f (by decide)).trans ((csI_f (by decide)).trans g4)
    · exact (csI_f (by decide)).trans ((csI_f (by decide)).trans g5)
    · show ∀ j ∈ lFs 10, _
      rw [lF10]
      intro j hj
      simp only [List.mem_cons, List.not_mem_nil, or_false] at hj
      rcases hj with rfl | rfl | rfl | rfl | rfl
      · exact (csI_f (by decide)).trans ((csI_f (by decide)).trans g6)
      · exact (csI_f (by decide)).trans ((csI_f (by decide)).trans g14)
      · exact (csI_f (by decide)).trans ((csI_f (by decide)).trans g15)
      · exact (csI_f (by decide)).trans ((csI_f (by decide)).trans g16)
      · exact (csI_f (by decide)).trans csI_e
    · show (10 : Int32) ≠ 5 ∧ (10 : Int32) ≠ 7 ∧ (10 : Int32) ≠ 11
      decide
  have hw : wfL (rqL k to tm x6 x14 x15 x16 x12) := ⟨Or.inr (end_c hk), Or.inl hto⟩
  refine WP_call (K_post hF (RC_fin h2 hl) hw hH) (fun c3 h3 => ?_)
  have fr := @AFr_sendOut a (rqL k to tm x6 x14 x15 x16 x12)
  have en : aNow (A_sendOut a (rqL k to tm x6 x14 x15 x16 x12)) = aNow a := fr.1 1 (by decide) 0
  have hn := h.2.2.2.2.2.2.2.2.2.2.2.2.2.2.2.2.2.2.2.2.2.2
  have h60 : 0 ≤ aNow a + 60 := by
    have h1 := hn.1
    have h2 := hn.2.1
    rw [Int32.le_iff_toInt_le, i_addI (by rw [show (60 : Int32).toInt = 60 by decide]; omega) (by rw [show (60 : Int32).toInt = 60 by decide]; omega), show (60 : Int32).toInt = 60 by decide, i_0]
    omega
  have := K_setAl (k := k) (t := 60) (x := 1) h3 hk (mdOK_w (mdOK_t hm MD_out (by omega)) (by omega)) (by rw [en]; exact h60) (Or.inr rfl)
  rw [en] at this
  exact WP_call this (fun c4 h4 => WP_some h4)
