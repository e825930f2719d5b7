theorem aLast_app {a : AA} {s : Nat} {e : AE} : aLast (A_append a s e) s = aS a 56 s + 1 := by
  unfold A_append
  dsimp only
  show aS (aSoil _ s) 56 s = _
  rw [AFr_soil.1 56 (by decide)]
  split
  · rw [aS_If (by decide), aS_If (by decide)]
    exact if_pos ⟨rfl, rfl⟩
  · exact if_pos ⟨rfl, rfl⟩
theorem asked_327 {F : Nat} {τ : RS} {a : AA} {u : AU} {s : Nat} {l : AL} {kd : Int32} (hF : 400 ≤ F) (h : RM τ a u) (hs : s < 7) (hl : u.1.1 = some l) (hq : rqOK (aAk a) l) (h2 : ¬ l.1 6 = 2) (hup : aS a 52 s = 1) (hz : u.2 s) (hz7 : u.2 (7 + s)) (hr : aS a 73 s = 3) (hmx : (aS a 151 s).toInt < 2147483000) (hp : pApp a s)
    (hcon : bM (fun q => rB (τ.2 63) (256 * lPn a s + q)) (eCon (aAk a) (aS a 53 s, 2, l.1 12, l.1 14, l.1 15, l.1 16)) 256) : WP (m_asked_b327 F τ (Int32.ofNat s) (l.1 2) (l.1 5) kd (aS a 56 s + 1) (l.1 12)) (fun τ => RM τ (aHold (A_sendAll (A_append a s (aS a 53 s, 2, l.1 12, l.1 14, l.1 15, l.1 16)) s false) s l (aLast (A_append a s (aS a 53 s, 2, l.1 12, l.1 14, l.1 15, l.1 16)) s) (-1)) u) := by
  obtain ⟨h10, hc, hq⟩ := hq
  have hlen : (eCon (aAk a) (aS a 53 s, 2, l.1 12, l.1 14, l.1 15, l.1 16)).length ≤ 256 ∧ l.1 12 = Int32.ofNat (eCon (aAk a) (aS a 53 s, 2, l.1 12, l.1 14, l.1 15, l.1 16)).length ∧ (l.1 16 = -1 ∨ (0 ≤ l.1 16 ∧ (l.1 16).toNatClampNeg < (aAk a).length ∧ ((aAk a).getD (l.1 16).toNatClampNeg (fun _ => 0, [])).1 1 < 3)) := by
    unfold eCon
    dsimp only
    rw [if_neg (by decide), if_pos rfl]
    rcases hq with ⟨z1, z2, z3⟩ | ⟨z1, z2, z3, z4, z5⟩
    · rw [if_pos z3]
      exact ⟨by show 2 ≤ 256; omega, z2, Or.inl z3⟩
    · have n1 : ¬ l.1 16 = -1 := by
        intro y
        rw [y] at z2
        exact absurd z2 (by decide)
      rw [if_neg n1]
      have z1 : l.1 6 = 1 := z1.resolve_right h2
      have wk := (h.2.2.2.2.2.2.2.2.2.2.2.2.2.1).2.2.1 ((aAk a).getD (l.1 16).toNatClampNeg (fun _ => 0, [])) (by
        rw [List.getD_eq_getElem?_getD, List.getElem?_eq_getElem z3]
        exact List.getElem_mem _)
      obtain ⟨n, f, v, _, _, _, _, _, _, _, _, k9, _⟩ := ask_nat wk
      have el : ((a4 (l.1 14) ++ a4 (l.1 15)).map some ++ [some (aLow8 (((aAk a).getD (l.1 16).toNatClampNeg (fun _ => 0, [])).1 1)), some (aLow8 (((aAk a).getD (l.1 16).toNatClampNeg (fun _ => 0, [])).1 7)), some (aLow8 (((aAk a).getD (l.1 16).toNatClampNeg (fun _ => 0, [])).1 8)), none] ++ (((aAk a).getD (l.1 16).toNatClampNeg (fun _ => 0, [])).2).map some).length = 12 + ((aAk a).getD (l.1 16).toNatClampNeg (fun _ => 0, [])).2.length := by
        rw [List.length_append, List.length_append, List.length_map, List.length_map]
        rfl
      rw [el]
      refine ⟨by omega, ?_, Or.inr ⟨z2, z3, z4.mpr z1⟩⟩
      rw [z5, show (12 : Int32) = Int32.ofNat 12 from rfl, i_ad]
  obtain ⟨hl1, hl2, hl3⟩ := hlen
  unfold m_asked_b327
  refine WP_r7 h (by decide) hs ?_
  refine WP_call (M_append (e := (aS a 53 s, 2, l.1 12, l.1 14, l.1 15, l.1 16)) hF h hs hup hz hp ⟨hl2, Or.inr (Or.inr rfl), fun _ => hl3⟩ hl1 hcon) (fun p14 h14 => ?_)
  have fa := @AFr_app a s (aS a 53 s, 2, l.1 12, l.1 14, l.1 15, l.1 16)
  have e56 : aLast (A_append a s (aS a 53 s, 2, l.1 12, l.1 14, l.1 15, l.1 16)) s = aS a 56 s + 1 := aLast_app
  rw [e56]
  generalize A_append a s (aS a 53 s, 2, l.1 12, l.1 14, l.1 15, l.1 16) = b at h14 fa
  refine WP_ld (n := 2827) rfl 2832 (by decide +kernel) (by omega) ?_
  refine WP_call (M_sendAll (bt := false) hF h14 hs hz7 (by rw [fa.1 73 (by decide)]; exact hr)) (fun p35 h35 => ?_)
  have fs := @AFr_sendAll b s false
  refine WP_call (M_hold (number := aS a 56 s + 1) (round := -1) hF h35 hs hl hc (by rw [fs.1 151 (by decide), fa.1 151 (by decide)]; exact hmx) (Or.inl ⟨rfl, rfl, rfl⟩)) (fun p hp => WP_some hp)
theorem asked_lay {F : Nat} {σ : RS} {a : AA} {u : AU} {s : Nat} {l : AL} {k : AK} {Q : RS → Prop} (hF : 400 ≤ F) (h : RM σ a u) (hs : s < 7) (hl : u.1.1 = some l) (h10 : l.1 4 = 10) (h6 : ¬ l.1 6 = 0) (hn : ¬ l.1 16 = -1) (ek : (aAk a).getD (l.1 16).toNatClampNeg (fun _ => 0, []) = k) (wk : wfK k)
    (b1 : lBs (aAk a) l = k.2) (t25 : σ.1 12 2825 = l.1 14) (t26 : σ.1 12 2826 = l.1 15) (t27 : σ.1 12 2827 = k.1 7) (t28 : σ.1 12 2828 = k.1 8) (bys : ∀ y, y < k.2.length → rLb σ 353 y = k.2.getD y 0) {sz nb : Int32}
    (fin : ∀ τ, RM τ a u → bM (fun q => rB (τ.2 63) (256 * lPn a s + q)) (eCon (aAk a) (aS a 53 s, 2, l.1 12, l.1 14, l.1 15, l.1 16)) 256 → WP (m_asked_b327 F τ (Int32.ofNat s) (l.1 2) (l.1 5) (k.1 1) nb sz) Q) (hkd : ¬ k.1 1 = 6) : WP (m_asked_b202 F σ sz (Int32.ofNat s) (l.1 2) (l.1 5) (k.1 1) (Int32.ofNat k.2.length) nb (Int32.ofNat (256 * lPn a s))) Q := by
  obtain ⟨kd, f, v, k1, k2, k3, k4, k5, k6, k7, k8, k9, _⟩ := ask_nat wk
  have hlp : lPn a s < 3584 := rLp_lt (n := aLast a s + 1) hs
  have eC : eCon (aAk a) (aS a 53 s, 2, l.1 12, l.1 14, l.1 15, l.1 16) = ([] ++ (a4 (l.1 14)).map some ++ (a4 (l.1 15)).map some ++ [some (aLow8 (k.1 1))] ++ [some (aLow8 (k.1 7))] ++ [some (aLow8 (k.1 8))] ++ [none]) ++ k.2.map some := by
    unfold eCon
    dsimp only
    rw [if_neg (by decide), if_pos rfl, if_neg hn, ek, List.map_append]
    rfl
  have hI : ∀ {p : Nat} {v : Int32}, Int32.ofNat (256 * lPn a s) + v = v + Int32.ofNat (256 * lPn a s) := fun {p v} => Int32.add_comm _ _
  unfold m_asked_b202
  refine WP_if c2_eq (fun y => absurd y hkd) (fun _ => ?_)
  refine WP_ld (n := 2825) rfl 2832 (by decide +kernel) (by omega) ?_
  rw [t25]
  refine WP_call (Lw_4 (F := F) (by omega) hlp (by show 0 + 4 ≤ 256; omega) (Lw_0 (σ := σ)) (by rfl)) (fun τ1 w1 => ?_)
  refine WP_ld (n := 2826) rfl 2832 (by decide +kernel) (by omega) ?_
  rw [w1.2.1.1 12 (by decide), t26]
  refine WP_call (Lw_4 (F := F) (by omega) hlp (by show 4 + 4 ≤ 256; omega) w1 (i_ad (s := 4))) (fun τ2 w2 => ?_)
  refine WP_call (Lw_lay (n := 8) hlp (by show 8 < 256; omega) w2 rfl (i_ad (s := 8))) (fun τ3 w3 => ?_)
  refine WP_ld (n := 2827) rfl 2832 (by decide +kernel) (by omega) ?_
  rw [w3.2.1.1 12 (by decide), t27]
  refine WP_call (Lw_lay (n := 9) hlp (by show 9 < 256; omega) w3 rfl (i_ad (s := 9))) (fun τ4 w4 => ?_)
  refine WP_ld (n := 2828) rfl 2832 (by decide +kernel) (by omega) ?_
  rw [w4.2.1.1 12 (by decide), t28]
  refine WP_call (Lw_lay (n := 10) hlp (by show 10 < 256; omega) w4 rfl (i_ad (s := 10))) (fun τ5 w5 => ?_)
  have w6 := Lw_skip w5
  have low : ∀ v : Int32, v.toInt8.toInt32.toInt8.toInt32 = aLow8 v := fun v => i_b8
  rw [low, low, low] at w6
  have hel : ([] ++ (a4 (l.1 14)).map some ++ (a4 (l.1 15)).map some ++ [some (aLow8 (k.1 1))] ++ [some (aLow8 (k.1 7))] ++ [some (aLow8 (k.1 8))] ++ [none]).length = 12 := rfl
  generalize hL : ([] ++ (a4 (l.1 14)).map some ++ (a4 (l.1 15)).map some ++ [some (aLow8 (k.1 1))] ++ [some (aLow8 (k.1 7))] ++ [some (aLow8 (k.1 8))] ++ [none]) = L12 at w6 hel eC
  have loop : ∀ n j (τ : RS), k.2.length + 1 ≤ j + n → j ≤ k.2.length → Lw (lPn a s) σ τ (L12 ++ (k.2.take j).map some) → WP (m_asked_b292 F n τ (Int32.ofNat s) (l.1 2) (l.1 5) (k.1 1) (Int32.ofNat k.2.length) nb (Int32.ofNat (256 * lPn a s)) sz (Int32.ofNat j)) Q := by
    intro n
    induction n with
    | zero => intro j τ h1 h2; omega
    | succ n ih =>
      intro j τ h1 h2 w
      unfold m_asked_b292
      refine WP_if (i_gei (by omega) (by omega)) (fun q => ?_) (fun q => ?_)
      · have : j = k.2.length := by omega
        subst this
        rw [List.take_length, ← eC] at w
        exact fin τ (RM_lgp h hs w.1) (Lw_bM w)
      · rw [show (542208 : Int32) + Int32.ofNat j = Int32.ofNat (1536 * 353 + j) by
          rw [show (542208 : Int32) = Int32.ofNat (1536 * 353) from rfl, i_ad], show Int32.ofNat (256 * lPn a s) + 12 + Int32.ofNat j = Int32.ofNat (256 * lPn a s + (12 + j)) by
          rw [show (12 : Int32) = Int32.ofNat 12 from rfl, i_ad, i_ad, Nat.add_assoc]]
        refine WP_eq (m_inLetter_n (by omega)) ?_
        have el : (L12 ++ (k.2.take j).map some).length = 12 + j := by
          rw [List.length_append, hel, List.length_map, List.length_take]
          omega
        have hv : rB (τ.2 16) (1536 * 353 + j) = k.2.getD j 0 := by
          rw [w.2.1.2 16 (by decide)]
          exact bys j (by omega)
        rw [hv]
        refine WP_call (Lw_lay (n := 12 + j) hlp (by omega) w el.symm rfl) (fun τ' w' => ?_)
        rw [i_s]
        refine ih (j + 1) τ' (by omega) (by omega) ?_
        have hlow : (k.2.getD j 0).toInt8.toInt32 = k.2.getD j 0 := wk.2.2 _ (by
          rw [List.getD_eq_getElem?_getD, List.getElem?_eq_getElem (by omega)]
          exact List.getElem_mem _)
        rw [hlow] at w'
        rw [take_s (d := 0) (show j < k.2.length by omega), List.map_append, ← List.append_assoc]
        exact w'
  refine loop F 0 τ5 (by omega) (Nat.zero_le _) ?_
  rw [List.take_zero, List.map_nil, List.append_nil]
  exact w6
