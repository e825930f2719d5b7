/-! a client begins: the class against the store -/
theorem tell_P {c c' : CS} {k : Nat} {fs : List Nat} {x y : Int32} (P : PX 5 k fs c c') : k_Askings_tell c' 0 x y = k_Askings_tell c 0 x y := by
  unfold k_Askings_tell k_Askings_tell_b0 k_Askings_tell_b12 k_Askings_tell_b27
  rw [PX_c P (by decide), crd_P P (by decide)]
theorem isCmd_v {c : CS} {k : Nat} {i x : Int32} (e9 : cI c 5 k 9 0 = i) (et : k_Askings_tell c 0 i 1 = some x) : k_Client_isCommand c k = some (aB (decide (x < 3))) := by
  unfold k_Client_isCommand k_Client_isCommand_b0 k_Client_isCommand_b21
  rw [e9, et]
  show (if xc2 .gt x 2 = true then _ else _) = _
  by_cases q : x < 3
  · rw [if_neg (fun z => by
      have z := c2_gt.mp z
      rw [Int32.lt_iff_toInt_lt] at z q
      rw [show (2 : Int32).toInt = 2 by decide] at z
      rw [show (3 : Int32).toInt = 3 by decide] at q
      omega), decide_eq_true q, if_pos (Or.inr rfl)]
    rfl
  · rw [if_pos (c2_gt.mpr (by
      rw [Int32.lt_iff_toInt_lt] at q ⊢
      rw [show (2 : Int32).toInt = 2 by decide]
      rw [show (3 : Int32).toInt = 3 by decide] at q
      omega)), decide_eq_false q, if_pos (Or.inl rfl)]
    rfl
/-- a client that was idle is busy -/
theorem RC_bg {c c' : CS} {a : AA} {v : CV} {k : Nat} {z x : Int32} (h : RC c a v) (P : PX 5 k [3, 8, 9, 10] c c') (e3 : cI c' 5 k 3 0 = 1) (e8 : cI c' 5 k 8 0 = 0) (e9 : cI c' 5 k 9 0 = z) (e10 : cI c' 5 k 10 0 = x) : RC c' (aI (aI (aI (aI (aI a 137 k z) 124 k 1) 129 k 0) 131 k x) 130 k (cI c 5 k 11 0)) v := by
  have hF : Ck [163, 168, 169, 170] k c c' := PX_k P (Or.inr rfl) (by decide)
  have hT := P.2.1
  have e : ∀ g, g ∉ [124, 129, 130, 131, 137] → ∀ i, aS (aI (aI (aI (aI (aI a 137 k z) 124 k 1) 129 k 0) 131 k x) 130 k (cI c 5 k 11 0)) g i = aS a g i := by
    intro g hg i
    simp only [List.mem_cons, List.not_mem_nil, or_false, not_or] at hg
    obtain ⟨g1, g2, g3, g4, g5⟩ := hg
    rw [aS_If g3, aS_If g4, aS_If g2, aS_If g1, aS_If g5]
  have on : ∀ (b : AA) (f t : Nat) (w : Int32), aS (aI b f k w) f t = if t = k then w else aS b f t := by
    intro b f t w
    rw [aS_I]
    by_cases q : t = k
    · rw [if_pos ⟨rfl, q⟩, if_pos q]
    · rw [if_neg (fun y => q y.2), if_neg q]
  have v130 : ∀ t, aS (aI (aI (aI (aI (aI a 137 k z) 124 k 1) 129 k 0) 131 k x) 130 k (cI c 5 k 11 0)) 130 t = if t = k then cI c 5 k 11 0 else aS a 130 t := fun t => by
    rw [on, aS_If (by decide), aS_If (by decide), aS_If (by decide), aS_If (by decide)]
  have v131 : ∀ t, aS (aI (aI (aI (aI (aI a 137 k z) 124 k 1) 129 k 0) 131 k x) 130 k (cI c 5 k 11 0)) 131 t = if t = k then x else aS a 131 t := fun t => by
    rw [aS_If (by decide), on, aS_If (by decide), aS_If (by decide), aS_If (by decide)]
  have v129 : ∀ t, aS (aI (aI (aI (aI (aI a 137 k z) 124 k 1) 129 k 0) 131 k x) 130 k (cI c 5 k 11 0)) 129 t = if t = k then 0 else aS a 129 t := fun t => by
    rw [aS_If (by decide), aS_If (by decide), on, aS_If (by decide), aS_If (by decide)]
  have v124 : ∀ t, aS (aI (aI (aI (aI (aI a 137 k z) 124 k 1) 129 k 0) 131 k x) 130 k (cI c 5 k 11 0)) 124 t = if t = k then 1 else aS a 124 t := fun t => by
    rw [aS_If (by decide), aS_If (by decide), aS_If (by decide), on, aS_If (by decide)]
  have v137 : ∀ t, aS (aI (aI (aI (aI (aI a 137 k z) 124 k 1) 129 k 0) 131 k x) 130 k (cI c 5 k 11 0)) 137 t = if t = k then z else aS a 137 t := fun t => by
    rw [aS_If (by decide), aS_If (by decide), aS_If (by decide), aS_If (by decide), on]
  have e11 : cI c' 5 k 11 0 = cI c 5 k 11 0 := PX_o P (by decide)
  have hsc : KSc c' (aI (aI (aI (aI (aI a 137 k z) 124 k 1) 129 k 0) 131 k x) 130 k (cI c 5 k 11 0)) := by
    intro w hw i hi
    have u4 := sT_u w hw (124, 5, 3) (by decide)
    have u9 := sT_u w hw (129, 5, 8) (by decide)
    by_cases q4 : w.1 = 124
    · obtain ⟨q1, q2⟩ := u4.mp q4
      have q1 : w.2.1 = 5 := q1
      have q2 : w.2.2 = 3 := q2
      rw [q1, q2, q4, v124]
      by_cases y : i = k
      · rw [if_pos y, y]
        exact e3
      · rw [if_neg y, (P.1 5 i 3 (fun k => y k.2.1)).1]
        have := h.1 w hw i hi
        rw [q1, q2, q4] at this
        exact this
    · by_cases q9 : w.1 = 129
      · obtain ⟨q1, q2⟩ := u9.mp q9
        have q1 : w.2.1 = 5 := q1
        have q2 : w.2.2 = 8 := q2
        rw [q1, q2, q9, v129]
        by_cases y : i = k
        · rw [if_pos y, y]
          exact e8
        · rw [if_neg y, (P.1 5 i 8 (fun k => y k.2.1)).1]
          have := h.1 w hw i hi
          rw [q1, q2, q9] at this
          exact this
      · have nn : ∀ y ∈ sT, y.1 ≠ 130 ∧ y.1 ≠ 131 ∧ y.1 ≠ 137 := by decide
        obtain ⟨n1, n2, n3⟩ := nn w hw
        rw [e w.1 (by simp only [List.mem_cons, List.not_mem_nil, or_false, not_or]; exact ⟨q4, q9, n1, n2, n3⟩)]
        rw [(P.1 w.2.1 i w.2.2 (fun j => by
          have : ∀ y ∈ sT, y.2.1 = 5 → y.2.2 ∈ [3, 8, 9, 10] → y.1 = 124 ∨ y.1 = 129 := by decide
          rcases this w hw j.1 j.2.2 with r | r
          · exact q4 r
          · exact q9 r)).1]
        exact h.1 w hw i hi
  have hcl : ∀ t, t < 8 → KCl c' t (aS (aI (aI (aI (aI (aI a 137 k z) 124 k 1) 129 k 0) 131 k x) 130 k (cI c 5 k 11 0)) 124 t) (aS (aI (aI (aI (aI (aI a 137 k z) 124 k 1) 129 k 0) 131 k x) 130 k (cI c 5 k 11 0)) 137 t) (aS (aI (aI (aI (aI (aI a 137 k z) 124 k 1) 129 k 0) 131 k x) 130 k (cI c 5 k 11 0)) 131 t) (aS (aI (aI (aI (aI (aI a 137 k z) 124 k 1) 129 k 0) 131 k x) 130 k (cI c 5 k 11 0)) 130 t) := by
    intro t ht
    rw [v124, v137, v131, v130]
    by_cases q : t = k
    · rw [if_pos q, if_pos q, if_pos q, if_pos q, q]
      exact Or.inr ⟨e9, e10, e11⟩
    · rw [if_neg q, if_neg q, if_neg q, if_neg q]
      exact KCl_ne hF (by decide) q (h.2.2.2.2.2.2.2.2.2.2.2.2.2.1 t ht)
  exact ⟨hsc, fr_k hF (by decide) e (by decide) h.2.1, hd_k hF (by decide) e (by decide) h.2.2.1, ld_k hF (by decide) e (by decide) h.2.2.2.1, rq_k hF (by decide) e (by decide) rfl h.2.2.2.2.1, bl_k hF (by decide) e (by decide) h.2.2.2.2.2.1, da_k hF (by decide) e (by decide) rfl h.2.2.2.2.2.2.1, lw_k hF (by decide) e (by decide) h.2.2.2.2.2.2.2.1, fun s hs => KG_fr hF (by decide) (h.2.2.2.2.2.2.2.2.1 s hs), fun s hs => KPg_fr hF (by decide) (h.2.2.2.2.2.2.2.2.2.1 s hs), fun s hs => KCh_fr hF (by decide) (h.2.2.2.2.2.2.2.2.2.2.1 s hs), fun s hs => KMc_fr hF (by decide) (h.2.2.2.2.2.2.2.2.2.2.2.1 s hs), pc_k hF (by decide) e (by decide) rfl h.2.2.2.2.2.2.2.2.2.2.2.2.1, hcl, fun k hk => KDn_fr hF (by decide) (h.2.2.2.2.2.2.2.2.2.2.2.2.2.2.1 k hk), KAk_fr hF (by decide) h.2.2.2.2.2.2.2.2.2.2.2.2.2.2.2.1, KFc_fr hF (by decide) h.2.2.2.2.2.2.2.2.2.2.2.2.2.2.2.2.1, id_k hF (by decide) e (by decide) h.2.2.2.2.2.2.2.2.2.2.2.2.2.2.2.2.2.1, fun k hk => KIc_fr hF (by decide) (h.2.2.2.2.2.2.2.2.2.2.2.2.2.2.2.2.2.2.1 k hk), KLt_fr hF hT (by decide) h.2.2.2.2.2.2.2.2.2.2.2.2.2.2.2.2.2.2.2.1, KRm_fr hF hT (by decide) h.2.2.2.2.2.2.2.2.2.2.2.2.2.2.2.2.2.2.2.2.1, sh_k e (by decide) rfl rfl h.2.2.2.2.2.2.2.2.2.2.2.2.2.2.2.2.2.2.2.2.2.1, nw_k e (by decide) h.2.2.2.2.2.2.2.2.2.2.2.2.2.2.2.2.2.2.2.2.2.2⟩
/-- a client's first request -/
def bgA (a : AA) (k j : Nat) : AA :=
  let cm := decide (((aAk a).getD j (fun _ => 0, [])).1 1 < 3)
  let o := cm && decide (aS a 126 k = -1)
  let a2 := aI (aI (aI (aI a 137 k (Int32.ofNat j)) 124 k 1) 129 k 0) 131 k (aB o)
  aAdd (if cm = true ∧ o = false then aAdd a2 127 k 1 else a2) 128 k 1
theorem K_bg63 {F : Nat} {c : CS} {a b : AA} {k j : Nat} {y : Int32} {H : List (Nat × Option AL)} {U : Nat → Int32} {N : Nat × Nat} (hF : 130 ≤ F) (h : RC c (aI b 130 k y) ((H, U), N)) (hk : k < 8) (fr : AFr [137, 124, 129, 131, 127] [] a b) (e124 : aS b 124 k = 1) (e137 : aS b 137 k = Int32.ofNat j) (e129 : aS b 129 k = 0) (hl : j < (aAk a).length) (hm : mdOK a 4) (hto : aInR (aS a 125 k) 0 6 = true) (hH : H.length ≤ 5) : WP (k_Client_begin_b63 F c k) (fun c' => RC c' (A_demand (aAdd b 128 k 1) k) ((H, U), N)) := by
  unfold k_Client_begin_b63
  rw [K_r h (F := 128) (cl := 5) (f := 7) (by decide) hk]
  refine WP_b ?_
  have h1 := RC_I (x := aS (aI b 130 k y) 128 k + 1) h (F := 128) (cl := 5) (f := 7) (i := k) (by decide) (by decide)
  have ec : aI (aI b 130 k y) 128 k (aS (aI b 130 k y) 128 k + 1) = aI (aAdd b 128 k 1) 130 k y := by
    rw [show aS (aI b 130 k y) 128 k = aS b 128 k from aS_If (by decide), aI_comm (fun z => absurd z.1 (by decide))]
    rfl
  rw [ec] at h1
  have f1 : AFr [128, 130] [] b (aI (aAdd b 128 k 1) 130 k y) := AFr_w (AFr_t (AFr_I (a := b) (f := 128)) AFr_I) (by decide) (by decide)
  have e9 : ¬ 40 < aS (aAdd b 128 k 1) 129 k + 1 := by
    have : aS (aAdd b 128 k 1) 129 k = 0 := (aS_If (by decide)).trans e129
    rw [this]
    decide
  have ek : aAk (aI (aAdd b 128 k 1) 130 k y) = aAk a := fr.2.2.2.2.2.2.2.2.2.2.2.1 (by decide)
  have := K_demand (j := j) hF h1 hk (by rw [f1.1 124 (by decide), e124]; decide) ((f1.1 137 (by decide) k).trans e137) (by rw [ek]; exact hl) (mdOK_s hm ((f1.1 2 (by decide) 0).trans (fr.1 2 (by decide) 0))) (by rw [f1.1 125 (by decide), fr.1 125 (by decide)]; exact hto) hH
  rw [dem_130 e9] at this
  exact WP_call this (fun c2 h2 => WP_some h2)
theorem K_beginC {F : Nat} {c : CS} {a : AA} {k j : Nat} {H : List (Nat × Option AL)} {U : Nat → Int32} {N : Nat × Nat} (hF : 130 ≤ F) (h : RC c a ((H, U), N)) (hk : k < 8) (hl : j < (aAk a).length) (hm : mdOK a 4) (hto : aInR (aS a 125 k) 0 6 = true) (hH : H.length ≤ 5) : WP (k_Client_begin F c k (Int32.ofNat j)) (fun c' => RC c' (A_demand (bgA a k j) k) ((H, U), N)) := by
  have et : k_Askings_tell c 0 (Int32.ofNat j) 1 = some (((aAk a).getD j (fun _ => 0, [])).1 1) := K_tellA (f := 1) h hl (by omega)
  have e126 : cI c 5 k 5 0 = aS a 126 k := K_r h (F := 126) (cl := 5) (f := 5) (by decide) hk
  unfold k_Client_begin k_Client_begin_b0 cputZ bgA
  dsimp only
  generalize ((aAk a).getD j (fun _ => 0, [])).1 1 = x at et
  rw [if_pos (show (1 : Int32) = 0 ∨ (1 : Int32) = 1 from Or.inr rfl)]
  refine WP_b (WP_b (WP_b ?_))
  have P : PX 5 k [3, 8, 9, 10] c (csI (csI (csI c 5 k 3 0 1) 5 k 9 0 (Int32.ofNat j)) 5 k 8 0 0) := PX_t (PX_t (PX_I (by decide)) (PX_I (by decide))) (PX_I (by decide))
  have e3 : cI (csI (csI (csI c 5 k 3 0 1) 5 k 9 0 (Int32.ofNat j)) 5 k 8 0 0) 5 k 3 0 = 1 := (csI_f (by decide)).trans ((csI_f (by decide)).trans csI_e)
  have e9 : cI (csI (csI (csI c 5 k 3 0 1) 5 k 9 0 (Int32.ofNat j)) 5 k 8 0 0) 5 k 9 0 = Int32.ofNat j := (csI_f (by decide)).trans csI_e
  have e8 : cI (csI (csI (csI c 5 k 3 0 1) 5 k 9 0 (Int32.ofNat j)) 5 k 8 0 0) 5 k 8 0 = 0 := csI_e
  have e5 : cI (csI (csI (csI c 5 k 3 0 1) 5 k 9 0 (Int32.ofNat j)) 5 k 8 0 0) 5 k 5 0 = aS a 126 k := (PX_o P (by decide)).trans e126
  generalize csI (csI (csI c 5 k 3 0 1) 5 k 9 0 (Int32.ofNat j)) 5 k 8 0 0 = c1 at P e3 e9 e8 e5
  refine WP_eq (isCmd_v e9 ((tell_P P).trans et)) ?_
  have fr0 : ∀ o, AFr [137, 124, 129, 131, 127] [] a (aI (aI (aI (aI a 137 k (Int32.ofNat j)) 124 k 1) 129 k 0) 131 k o) := fun o => AFr_w (AFr_t (AFr_t (AFr_t AFr_I AFr_I) AFr_I) AFr_I) (by decide) (by decide)
  have g124 : ∀ o, aS (aI (aI (aI (aI a 137 k (Int32.ofNat j)) 124 k 1) 129 k 0) 131 k o) 124 k = 1 := fun o => (aS_If (by decide)).trans ((aS_If (by decide)).trans (if_pos ⟨rfl, rfl⟩))
  have g137 : ∀ o, aS (aI (aI (aI (aI a 137 k (Int32.ofNat j)) 124 k 1) 129 k 0) 131 k o) 137 k = Int32.ofNat j := fun o => (aS_If (by decide)).trans ((aS_If (by decide)).trans ((aS_If (by decide)).trans (if_pos ⟨rfl, rfl⟩)))
  have g129 : ∀ o, aS (aI (aI (aI (aI a 137 k (Int32.ofNat j)) 124 k 1) 129 k 0) 131 k o) 129 k = 0 := fun o => (aS_If (by decide)).trans (if_pos ⟨rfl, rfl⟩)
  -- opening or not
  have b36 : ∀ o : Bool, WP (k_Client_begin_b36 F c1 k (aB o) k) (fun c' => RC c' (A_demand (aAdd (if decide (x < 3) = true ∧ o = false then aAdd (aI (aI (aI (aI a 137 k (Int32.ofNat j)) 124 k 1) 129 k 0) 131 k (aB o)) 127 k 1 else aI (aI (aI (aI a 137 k (Int32.ofNat j)) 124 k 1) 129 k 0) 131 k (aB o)) 128 k 1) k) ((H, U), N)) := by
    intro o
    unfold k_Client_begin_b36 cputZ
    rw [if_pos (show aB o = 0 ∨ aB o = 1 by cases o <;> decide)]
    refine WP_b ?_
    have P2 : PX 5 k [3, 8, 9, 10] c (csI c1 5 k 10 0 (aB o)) := PX_t P (PX_I (by decide))
    have r9 : cI (csI c1 5 k 10 0 (aB o)) 5 k 9 0 = Int32.ofNat j := (csI_f (by decide)).trans e9
    have r10 : cI (csI c1 5 k 10 0 (aB o)) 5 k 10 0 = aB o := csI_e
    have h2 := RC_bg h P2 ((csI_f (by decide)).trans e3) ((csI_f (by decide)).trans e8) r9 r10
    refine WP_eq (isCmd_v r9 ((tell_P P2).trans et)) ?_
    rw [r10]
    have go : WP (k_Client_begin_b63 F (csI c1 5 k 10 0 (aB o)) k) (fun c' => RC c' (A_demand (aAdd (aI (aI (aI (aI a 137 k (Int32.ofNat j)) 124 k 1) 129 k 0) 131 k (aB o)) 128 k 1) k) ((H, U), N)) := K_bg63 hF h2 hk (fr0 _) (g124 _) (g137 _) (g129 _) hl hm hto hH
    by_cases q : x < 3
    · rw [decide_eq_true q]
      refine WP_if c0_eq (fun z => absurd z (by decide)) (fun _ => ?_)
      cases o with
      | true =>
        rw [if_neg (show ¬ ((true : Bool) = true ∧ (true : Bool) = false) by decide)]
        exact WP_if c0_ne (fun _ => go) (fun z => absurd (show ¬ aB true = 0 by decide) z)
      | false =>
        rw [if_pos (show (true : Bool) = true ∧ (false : Bool) = false from ⟨rfl, rfl⟩)]
        refine WP_if c0_ne (fun z => absurd rfl z) (fun _ => ?_)
        rw [K_r h2 (F := 127) (cl := 5) (f := 6) (by decide) hk]
        refine WP_b ?_
        have h3 := RC_I (x := aS (aI (aI (aI (aI (aI a 137 k (Int32.ofNat j)) 124 k 1) 129 k 0) 131 k (aB false)) 130 k (cI c 5 k 11 0)) 127 k + 1) h2 (F := 127) (cl := 5) (f := 6) (i := k) (by decide) (by decide)
        have ec : aI (aI (aI (aI (aI (aI a 137 k (Int32.ofNat j)) 124 k 1) 129 k 0) 131 k (aB false)) 130 k (cI c 5 k 11 0)) 127 k (aS (aI (aI (aI (aI (aI a 137 k (Int32.ofNat j)) 124 k 1) 129 k 0) 131 k (aB false)) 130 k (cI c 5 k 11 0)) 127 k + 1) = aI (aAdd (aI (aI (aI (aI a 137 k (Int32.ofNat j)) 124 k 1) 129 k 0) 131 k (aB false)) 127 k 1) 130 k (cI c 5 k 11 0) := by
          generalize aI (aI (aI (aI a 137 k (Int32.ofNat j)) 124 k 1) 129 k 0) 131 k (aB false) = b
          rw [show aS (aI b 130 k (cI c 5 k 11 0)) 127 k = aS b 127 k from aS_If (by decide), aI_comm (fun z => absurd z.1 (by decide))]
          rfl
        rw [ec] at h3
        exact K_bg63 hF h3 hk (AFr_w (AFr_t (fr0 (aB false)) AFr_I) (by decide) (by decide)) ((aS_If (by decide)).trans (g124 _)) ((aS_If (by decide)).trans (g137 _)) ((aS_If (by decide)).trans (g129 _)) hl hm hto hH
    · rw [decide_eq_false q]
      refine WP_if c0_eq (fun _ => ?_) (fun z => absurd rfl z)
      rw [if_neg (show ¬ ((false : Bool) = true ∧ o = false) from fun z => absurd z.1 (by decide))]
      exact go
  unfold k_Client_begin_b35
  by_cases q : x < 3
  · have b36 := b36
    rw [decide_eq_true q] at b36 ⊢
    refine WP_if c0_eq (fun z => absurd z (by decide)) (fun _ => ?_)
    rw [e5]
    refine WP_if c2_ne (fun z => ?_) (fun z => ?_)
    · have z : ¬ aS a 126 k = -1 := z
      rw [decide_eq_false z]
      exact b36 false
    · have z : aS a 126 k = -1 := Classical.not_not.mp z
      rw [decide_eq_true z]
      exact b36 true
  · have b36 := b36
    rw [decide_eq_false q] at b36 ⊢
    refine WP_if c0_eq (fun _ => ?_) (fun z => absurd rfl z)
    exact b36 false
