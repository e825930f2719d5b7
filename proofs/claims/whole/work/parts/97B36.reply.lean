/-! replies -/
theorem pr47 {F : Nat} {a : AA} {u : AU} {s w : Nat} {bs : List Int32} {σ0 : RS} {Q : RS → Prop} (h : RM σ0 a u) (hb : ∀ b ∈ bs, aLow8 b = b) (hA : An σ0 bs)
    (hQ : ∀ τ, SLf 352 σ0 τ → Fr [] [16] σ0 τ → (∀ y, y < bs.length → rLb τ 352 y = bs.getD y 0) → WP (m_postReply_b79 F τ (Int32.ofNat s) (Int32.ofNat w)) Q) :
    ∀ n q (τ : RS), bs.length + 1 ≤ q + n → q ≤ bs.length → SLf 352 σ0 τ → Fr [] [16] σ0 τ → (∀ y, y < q → rLb τ 352 y = bs.getD y 0) → WP (m_postReply_b47 F n τ (Int32.ofNat s) (Int32.ofNat w) (Int32.ofNat q)) Q := by
  obtain ⟨a1, a2, a3⟩ := hA
  intro n
  induction n with
  | zero => intro q τ h1 h2; omega
  | succ n ih =>
    intro q τ h1 h2 hS hFr hy
    unfold m_postReply_b47
    rw [hFr.1 122 (by decide), a1]
    refine WP_if (i_gei (by omega) (by omega)) (fun y => ?_) (fun y => ?_)
    · have : q = bs.length := by omega
      subst this
      exact hQ τ hS hFr hy
    · refine WP_ld rfl 160 (by decide +kernel) (by omega) ?_
      rw [hFr.1 121 (by decide), a3 q (by omega), show (540672 : Int32) + Int32.ofNat q = Int32.ofNat (540672 + q) from i_ad (c := 540672)]
      refine WP_eq (m_layLetter_n (by omega)) ?_
      rw [i_s]
      have hv : (bs.getD q 0).toInt8.toInt32 = bs.getD q 0 := by
        rw [List.getD_eq_getElem?_getD, List.getElem?_eq_getElem (by omega)]
        exact hb _ (List.getElem_mem _)
      refine ih (q + 1) _ (by omega) (by omega) (SLf_L hS (by omega)) (Fr_w (Fr_t hFr Fr_L) (by simp) (by simp)) (fun z hz => ?_)
      rw [rLb_lay hv]
      by_cases q3 : z = q
      · rw [if_pos q3, q3]
      · rw [if_neg q3]
        exact hy z (by omega)
theorem M_postReply {F : Nat} {σ : RS} {a : AA} {u : AU} {s w : Nat} {q : AQ} {kind place : Int32} {bs : List Int32} (hF : 400 ≤ F) (h : RM σ a u) (hs : s < 7) (hw : w < 224) (h100 : σ.1 100 w = q 1) (h101 : σ.1 101 w = q 2) (hq : aInR (q 1) 8 15 = true) (hA : kind = 0 → An σ bs) (hn : ¬ kind = 0 → bs = []) (hb : ∀ b ∈ bs, aLow8 b = b) :
    WP (m_postReply F σ (Int32.ofNat s) (Int32.ofNat w) kind place) (fun σ' => RM σ' (aReply a s q kind place bs) u) := by
  unfold m_postReply m_postReply_b0 aReply
  refine WP_ld rfl 224 (by decide +kernel) hw ?_
  rw [h101]
  refine WP_eq m_write_n ?_
  have h1 : RM (wrO σ 11 (q 2) kind place 0) a u := RM_out h wrO_S
  by_cases hk : kind = 0
  · refine WP_if c0_ne (fun y => absurd hk y) (fun _ => ?_)
    have hA0 := hA hk
    have hA1 : An (wrO σ 11 (q 2) kind place 0) bs := hA0
    obtain ⟨a1, a2, a3⟩ := hA1
    rw [a1]
    refine WP_st (n := 2818) rfl 2832 (by decide +kernel) (by omega) ?_
    have e122 : (setI (wrO σ 11 (q 2) kind place 0) 12 2818 (Int32.ofNat bs.length)).1 122 0 = Int32.ofNat bs.length := a1
    rw [e122]
    refine WP_st (n := 352) rfl 354 (by decide +kernel) (by omega) ?_
    have h2 := RM_out h1 (SLf_I (f := 11) (i := 352) (v := Int32.ofNat bs.length) (SLf_I (f := 12) (i := 2818) (v := Int32.ofNat bs.length) SLf_refl (by unfold sOf; omega)) (by unfold sOf; omega))
    have x8 : (setI (setI (wrO σ 11 (q 2) kind place 0) 12 2818 (Int32.ofNat bs.length)) 11 352 (Int32.ofNat bs.length)).1 8 352 = 11 := rfl
    have x9 : (setI (setI (wrO σ 11 (q 2) kind place 0) 12 2818 (Int32.ofNat bs.length)) 11 352 (Int32.ofNat bs.length)).1 9 352 = q 2 := rfl
    have x10 : (setI (setI (wrO σ 11 (q 2) kind place 0) 12 2818 (Int32.ofNat bs.length)) 11 352 (Int32.ofNat bs.length)).1 10 352 = 0 := rfl
    have x11 : (setI (setI (wrO σ 11 (q 2) kind place 0) 12 2818 (Int32.ofNat bs.length)) 11 352 (Int32.ofNat bs.length)).1 11 352 = Int32.ofNat bs.length := rfl
    have x12 : ∀ v, v < 3 → (setI (setI (wrO σ 11 (q 2) kind place 0) 12 2818 (Int32.ofNat bs.length)) 11 352 (Int32.ofNat bs.length)).1 12 (2816 + v) = [kind, place, Int32.ofNat bs.length].getD v 0 := by
      intro v hv
      have : v = 0 ∨ v = 1 ∨ v = 2 := by omega
      rcases this with rfl | rfl | rfl <;> rfl
    have xA : An (setI (setI (wrO σ 11 (q 2) kind place 0) 12 2818 (Int32.ofNat bs.length)) 11 352 (Int32.ofNat bs.length)) bs := hA0
    have x100 : (setI (setI (wrO σ 11 (q 2) kind place 0) 12 2818 (Int32.ofNat bs.length)) 11 352 (Int32.ofNat bs.length)).1 100 w = q 1 := h100
    generalize setI (setI (wrO σ 11 (q 2) kind place 0) 12 2818 (Int32.ofNat bs.length)) 11 352 (Int32.ofNat bs.length) = σ2 at h2 x8 x9 x10 x11 x12 xA x100
    refine pr47 (u := u) h2 hb xA (fun τ t1 t2 t3 => ?_) F 0 σ2 (by omega) (Nat.zero_le _) SLf_refl ⟨fun _ _ => rfl, fun _ _ => rfl⟩ (fun y hy => absurd hy (Nat.not_lt_zero _))
    unfold m_postReply_b79
    refine WP_ld rfl 224 (by decide +kernel) hw ?_
    rw [t2.1 100 (by decide), x100]
    have hm : Mad (aAk a) τ (aU (aU (aU (aLet (Int32.ofNat s) (q 1) 11 (q 2)).1 6 kind) 7 place) 17 (Int32.ofNat bs.length), [], bs, ([], [])) := by
      refine ⟨?_, ?_, ?_, Nat.zero_le _, ⟨wfS hs, Or.inr hq⟩, ⟨bs.length, by omega, ?_, Nat.le_refl _, fun i hi => absurd hi (Nat.not_lt_zero _)⟩, fun v x hv => ?_, fun i v hv => ?_, fun i hi => absurd hi (Nat.not_lt_zero _)⟩
      · rw [t2.1 8 (by decide)]
        exact x8
      · rw [t2.1 9 (by decide)]
        exact x9
      · rw [t2.1 10 (by decide)]
        exact x10
      · rw [t2.1 11 (by decide)]
        exact x11
      · rw [t2.1 12 (by decide)]
        have hv : (if kind = 0 then [kind, place, Int32.ofNat bs.length][v]? else [kind, place][v]?) = some x := hv
        rw [if_pos hk] at hv
        match v, hv with
        | 0, hv => exact (x12 0 (by omega)).trans (Option.some.inj hv)
        | 1, hv => exact (x12 1 (by omega)).trans (Option.some.inj hv)
        | 2, hv => exact (x12 2 (by omega)).trans (Option.some.inj hv)
        | v + 3, hv => exact absurd hv (by simp)
      · have hv : bs[i]? = some v := hv
        obtain ⟨hlt, _⟩ := List.getElem?_eq_some_iff.mp hv
        rw [t3 i hlt, List.getD_eq_getElem?_getD, hv]
        rfl
    exact WP_call (M_postM hF (RM_out h2 t1) hs hm rfl rfl) (fun τ3 h3 => WP_some h3)
  · refine WP_if c0_ne (fun _ => ?_) (fun y => absurd hk (fun z => y z))
    have hbs := hn hk
    subst hbs
    unfold m_postReply_b79
    refine WP_ld rfl 224 (by decide +kernel) hw ?_
    rw [show (wrO σ 11 (q 2) kind place 0).1 100 w = q 1 from h100]
    have hm : Mad (aAk a) (wrO σ 11 (q 2) kind place 0) (aU (aU (aU (aLet (Int32.ofNat s) (q 1) 11 (q 2)).1 6 kind) 7 place) 17 (Int32.ofNat ([] : List Int32).length), [], [], ([], [])) := by
      refine Mad_plain rfl rfl rfl rfl ⟨wfS hs, Or.inr hq⟩ (fun j v hv => ?_)
      have hv : (if kind = 0 then [kind, place, Int32.ofNat 0][j]? else [kind, place][j]?) = some v := hv
      rw [if_neg hk] at hv
      match j, hv with
      | 0, hv => exact Or.inl ⟨rfl, (Option.some.inj hv).symm⟩
      | 1, hv => exact Or.inr (Or.inl ⟨rfl, (Option.some.inj hv).symm⟩)
      | j + 2, hv => exact absurd hv (by simp)
    exact WP_call (M_postM hF h1 hs hm rfl rfl) (fun τ3 h3 => WP_some h3)
theorem aQuery_b {M : AM} {k : AK} (h : wfM M) : ∀ b ∈ aQuery M k, aLow8 b = b := by
  have c1 : ∀ d : Int32, aLow8 d = d → ∀ x ∈ [d], aLow8 x = x := fun d hd x hx => by rw [List.mem_singleton.mp hx]; exact hd
  unfold aQuery
  dsimp only
  split
  · split
    · rename_i e
      intro b hb
      rcases List.mem_cons.mp hb with z | z
      · rw [z]
        decide
      · exact (aFind_wf h e).2 b z
    · exact c1 0 (by decide)
  · split
    · intro b hb
      simp only [List.mem_cons, List.not_mem_nil, or_false] at hb
      rcases hb with z | z <;> (rw [z]; exact aLow8_i)
    · split
      · exact c1 0 (by decide)
      · rename_i e he
        have hm := List.mem_of_getElem? he
        obtain ⟨w1, w2, w3, w4⟩ := h.2.2.2 _ hm
        intro b hb
        rcases List.mem_cons.mp hb with z | z
        · rw [z]
          decide
        · rcases List.mem_cons.mp z with z | z
          · rw [z]
            exact say_32 (by omega)
          · rcases List.mem_append.mp z with z | z
            · exact w3 b z
            · exact w4 b z
theorem aPerf_b {K : List AK} {M : AM} {n : Int32} {e : AE} (h : wfM M) : ∀ b ∈ (aPerf K M n e).2.2.2, aLow8 b = b := by
  unfold aPerf
  split
  · exact fun b hb => absurd hb List.not_mem_nil
  · split
    · exact fun b hb => absurd hb List.not_mem_nil
    · rename_i i es
      have hi : i < M.1.length := by
        unfold aSesOf at es
        exact (List.findIdx?_eq_some_iff_getElem.mp es).1
      have hx := ses_get h hi
      have hx : (M.1.getD i (0, 0, 0, 0, [])).2.2.2.2.length ≤ 112 ∧ ∀ b ∈ (M.1.getD i (0, 0, 0, 0, [])).2.2.2.2, aLow8 b = b := hx
      dsimp only
      generalize M.1.getD i (0, 0, 0, 0, []) = x at hx
      have hw : wfM (M.1.set i (x.1, n, x.2.2), M.2) := by
        refine ⟨⟨by show (M.1.set i _).length ≤ 16; rw [List.length_set]; exact h.1.1, h.1.2⟩, h.2.1, fun y hy => ?_, h.2.2.2⟩
        rcases List.mem_or_eq_of_mem_set hy with z | z
        · exact h.2.2.1 y z
        · rw [z]
          exact hx
      split
      · exact fun b hb => absurd hb List.not_mem_nil
      · split
        · exact hx.2
        · exact (aOp_ans hw).2
