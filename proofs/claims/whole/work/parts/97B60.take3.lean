theorem h_inl {σ : RS} {a : AA} {u : AU} {l : AL} (h : RM σ a u) (hl : u.1.1 = some l) : RLt (aAk a) σ 353 l := h.2.2.2.1 l hl
/-- the new entries are appended -/
theorem take_append {F : Nat} {a : AA} {u : AU} {s : Nat} {f turn p : Int32} {l : AL} {es : List AE} {Q : RS → Prop} {B : AA} (hF : 400 ≤ F) (hs : s < 7) (hl : u.1.1 = some l) (hz : u.2 s) (h6 : es.length ≤ 6) (hes : es.length ≤ l.2.1.length) (hE : ∀ i, i < es.length → es.getD i aE0 = l.2.1.getD i aE0)
    (go : ∀ (τ : RS), RM τ B u → WP ((rld τ 55 (Int32.ofNat s)).bind fun x109 =>
      if xc2 .ge (p + Int32.ofNat es.length) x109 = true then (
        m_take_b507 F  τ (p + Int32.ofNat es.length) (Int32.ofNat s) f turn
      ) else (
        (rld τ 55 (Int32.ofNat s)).bind fun x112 =>
        m_take_b507 F  τ x112 (Int32.ofNat s) f turn
      )) Q) :
    ∀ n i (b : AA) (τ : RS), es.length + 1 ≤ i + n → i ≤ es.length → RM τ b u → aS b 52 s = 1 → aAppendAll s (es.drop i) b = B → (∀ l1 e l2, es.drop i = l1 ++ e :: l2 → pApp (aAppendAll s l1 b) s) → WP (m_take_b375 F n τ (Int32.ofNat s) f turn p (Int32.ofNat es.length) (Int32.ofNat i)) Q := by
  intro n
  induction n with
  | zero => intro i b τ h1 h2; omega
  | succ n ih =>
    intro i b τ h1 h2 hb hup hB hpa
    unfold m_take_b375
    refine WP_if (i_gei (by omega) (by omega)) (fun q => ?_) (fun q => ?_)
    · have : i = es.length := by omega
      subst this
      rw [List.drop_length] at hB
      have hB : b = B := hB
      exact go τ (hB ▸ hb)
    · have hi : i < es.length := by omega
      rw [drop_c hi] at hB hpa
      rw [hE i hi] at hB hpa
      have lt : lPn b s < 3584 := rLp_lt (n := aLast b s + 1) hs
      have hlet := h_inl hb hl
      obtain ⟨_, _, _, _, _, _, _, _, _, _, g⟩ := id hlet
      obtain ⟨e1, e2, e3, e4, e5, e6⟩ := g i (by omega)
      have e3 : τ.1 13 (6 * 353 + i) = (l.2.1.getD i aE0).1 := e3
      have e4 : τ.1 14 (6 * 353 + i) = (l.2.1.getD i aE0).2.1 := e4
      have e5 : τ.1 15 (6 * 353 + i) = (l.2.1.getD i aE0).2.2.1 := e5
      have e1 : wfE (aAk b) (l.2.1.getD i aE0) := e1
      have e2 : (eCon (aAk b) (l.2.1.getD i aE0)).length ≤ 256 := e2
      have e6 : bM (fun q => rLb τ 353 (256 * i + q)) (eCon (aAk b) (l.2.1.getD i aE0)) 256 := e6
      have hpb : pApp b s := hpa [] _ _ rfl
      have hB : aAppendAll s (es.drop (i + 1)) (A_append b s (l.2.1.getD i aE0)) = B := hB
      have hpa' : ∀ l1 e l2, es.drop (i + 1) = l1 ++ e :: l2 → pApp (aAppendAll s l1 (A_append b s (l.2.1.getD i aE0))) s := fun l1 e l2 z => hpa (l.2.1.getD i aE0 :: l1) e l2 (by rw [z]; rfl)
      generalize l.2.1.getD i aE0 = e at e1 e2 e3 e4 e5 e6 hB hpa'
      refine WP_eq (M_nextContent hb hs) ?_
      have ix : (2118 : Int32) + Int32.ofNat i = Int32.ofNat (6 * 353 + i) := by
        rw [show (2118 : Int32) = Int32.ofNat (6 * 353) from rfl, i_ad]
      refine WP_ld (n := 6 * 353 + i) ix 2124 (by decide +kernel) (by omega) ?_
      rw [show τ.1 15 (6 * 353 + i) = _ from e5, e1.1]
      have key : ∀ m j (τ' : RS), (eCon (aAk b) e).length + 1 ≤ j + m → j ≤ (eCon (aAk b) e).length → Lw (lPn b s) τ τ' ((List.range j).map (fun y => some (rLb τ 353 (256 * i + y)))) → WP (m_take_b405 F (m_take_b375 F n) m τ' (Int32.ofNat s) f turn p (Int32.ofNat es.length) (Int32.ofNat i) (Int32.ofNat (256 * lPn b s)) (Int32.ofNat (eCon (aAk b) e).length) (Int32.ofNat j)) Q := by
        intro m
        induction m with
        | zero => intro j τ' h1 h2; omega
        | succ m ihm =>
          intro j τ' g1 g2 g3
          have hF3 : Fr [] [63] τ τ' := g3.2.1
          unfold m_take_b405
          rw [ix]
          refine WP_if (i_gei (by omega) (by omega)) (fun y => ?_) (fun y => ?_)
          · have : j = (eCon (aAk b) e).length := by omega
            subst this
            have hr : RM τ' b u := RM_lgp hb hs g3.1
            refine WP_ld (n := 6 * 353 + i) rfl 2124 (by decide +kernel) (by omega) ?_
            refine WP_ld (n := 6 * 353 + i) rfl 2124 (by decide +kernel) (by omega) ?_
            rw [hF3.1 13 (by decide), hF3.1 14 (by decide), e3, e4, ← e1.1]
            refine WP_call (M_append (e := e) hF hr hs hup hz hpb e1 e2 ?_) (fun τ2 h7 => ?_)
            · intro y v hy hv
              obtain ⟨hyl, _⟩ := List.getElem?_eq_some_iff.mp hv
              refine (g3.2.2 y (rLb τ 353 (256 * i + y)) ?_).trans (e6 y v hy hv)
              rw [List.getElem?_map, List.getElem?_range hyl]
              rfl
            · rw [i_s]
              exact ih (i + 1) _ τ2 (by omega) (by omega) h7 (by rw [AFr_app.1 52 (by decide)]; exact hup) hB hpa'
          · rw [show (542208 : Int32) + 256 * Int32.ofNat i + Int32.ofNat j = Int32.ofNat (1536 * 353 + (256 * i + j)) by
              rw [show (542208 : Int32) = Int32.ofNat (1536 * 353) from rfl, show (256 : Int32) * Int32.ofNat i = Int32.ofNat (256 * i) from i_mc, i_ad, i_ad, Nat.add_assoc]]
            refine WP_eq (m_inLetter_n (by omega)) ?_
            refine WP_call (Lw_lay (n := j) (v := rB (τ'.2 16) (1536 * 353 + (256 * i + j))) lt (by rw [List.length_map, List.length_range]; omega) g3 (by rw [List.length_map, List.length_range]) i_ad) (fun τ2 w2 => ?_)
            rw [i_s]
            refine ihm (j + 1) τ2 (by omega) (by omega) ?_
            rw [List.range_succ, List.map_append]
            have e16 : τ'.2 16 = τ.2 16 := hF3.2 16 (by decide)
            rw [rB_8, e16] at w2
            exact w2
      exact key F 0 τ (by omega) (Nat.zero_le _) Lw_0
