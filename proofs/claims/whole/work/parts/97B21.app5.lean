/-! append -/
theorem i_pre {n : Nat} (h : 1 ≤ n) : Int32.ofNat n - 1 = Int32.ofNat (n - 1) := by
  have : Int32.ofNat n = Int32.ofNat (n - 1) + 1 := by rw [i_s, Nat.sub_add_cancel h]
  rw [this, Int32.add_sub_cancel]
theorem M_app228 {F : Nat} {σ : RS} {a : AA} {u : AU} {s g S : Nat} {c : List Nat} {e : AE} (hF : 400 ≤ F) (h : RM σ a u) (hs : s < 7) (hup : aS a 52 s = 1) (hz : u.2 s) (h1 : (aLg a s).length < 300) (h2 : (aLast a s).toInt + 1 < 1073741824) (hc : aCh a s = c ++ [g]) (hS : (aFc a s g).1 1 = Int32.ofNat S) (hS2 : S ≤ 8000) (he : wfE (aAk a) e) (he2 : (eCon (aAk a) e).length ≤ 256)
    (hcon : bM (fun q => rB (σ.2 63) (256 * lPn a s + q)) (eCon (aAk a) e) 256) : WP (m_append_b228 F σ (Int32.ofNat s) e.1 e.2.1 e.2.2.1) (fun σ' => RM σ' (aSoil (if e.2.1 = 1 then aI (aI (aApp3 a s g e) 64 s (aLast a s + 1)) 65 s e.2.2.2.1 else aApp3 a s g e) s) u) := by
  have hlen : (aCh a s).length = c.length + 1 := by rw [hc]; simp
  have hch := h.2.2.2.2.2.2.2.1 s hs hup
  have hgi : (aCh a s).getD c.length 0 = g := by
    rw [hc, List.getD_eq_getElem?_getD, List.getElem?_append_right (Nat.le_refl _), Nat.sub_self]
    rfl
  obtain ⟨c1, c2, c3⟩ := hch
  have hg := c3 c.length (by omega)
  rw [hgi] at hg
  obtain ⟨g4, g16, g50, g51⟩ := hg
  have z0 := (h.2.2.2.2.2.1 s hs g g16).1
  have hp := rLp_lt (n := aLast a s + 1) hs
  unfold m_append_b228
  refine WP_r7 h (by decide) hs ?_
  refine WP_st rfl 7 (by decide +kernel) hs ?_
  refine WP_ld rfl 7 (by decide +kernel) hs ?_
  rw [setI_e]
  refine WP_eq m_logOf_n ?_
  rw [show 512 * s + rMod (aS a 56 s + 1) = lPn a s from rfl]
  have hp : lPn a s < 3584 := hp
  refine WP_st rfl 3584 (by decide +kernel) hp ?_
  refine WP_st rfl 3584 (by decide +kernel) hp ?_
  refine WP_st rfl 3584 (by decide +kernel) hp ?_
  refine WP_ld rfl 7 (by decide +kernel) hs ?_
  have e49 : (setI (setI (setI (setI σ 56 s (aS a 56 s + 1)) 59 (lPn a s) e.1) 60 (lPn a s) e.2.1) 61 (lPn a s) e.2.2.1).1 49 s = Int32.ofNat (aCh a s).length := c1
  have e50 : (setI (setI (setI (setI σ 56 s (aS a 56 s + 1)) 59 (lPn a s) e.1) 60 (lPn a s) e.2.1) 61 (lPn a s) e.2.2.1).1 50 (12 * s + c.length) = Int32.ofNat g := g50
  rw [e49, show (12 : Int32) * Int32.ofNat s + Int32.ofNat (aCh a s).length - 1 = Int32.ofNat (12 * s + c.length) by
    rw [show (12 : Int32) = Int32.ofNat 12 from rfl, i_ma, hlen, i_pre (by omega)]
    rfl]
  refine WP_ld rfl 84 (by decide +kernel) (by omega) ?_
  rw [e50]
  refine WP_eq m_fileOf_n ?_
  rw [if_neg (by decide), i_half (by omega)]
  refine WP_st rfl 112 (by decide +kernel) (by omega) ?_
  have hk : 2 * (16 * s + g) < 224 := by omega
  refine WP_ld rfl 224 (by decide +kernel) hk ?_
  refine WP_st rfl 3584 (by decide +kernel) hp ?_
  have e37 : (setI (setI (setI (setI (setI σ 56 s (aS a 56 s + 1)) 59 (lPn a s) e.1) 60 (lPn a s) e.2.1) 61 (lPn a s) e.2.2.1) 44 (16 * s + g) (1 &&& 1)).1 37 (2 * (16 * s + g)) = Int32.ofNat S := z0.2.2.1.trans hS
  rw [e37]
  -- the memory ahead of the bytes
  have hF2 : Fr [56, 59, 60, 61] [] σ (setI (setI (setI (setI σ 56 s (aS a 56 s + 1)) 59 (lPn a s) e.1) 60 (lPn a s) e.2.1) 61 (lPn a s) e.2.2.1) := Fr_w (Fr_t (Fr_t (Fr_t Fr_I Fr_I) Fr_I) Fr_I) (by simp) (by simp)
  have v56 : ∀ t, (setI (setI (setI (setI σ 56 s (aS a 56 s + 1)) 59 (lPn a s) e.1) 60 (lPn a s) e.2.1) 61 (lPn a s) e.2.2.1).1 56 t = if t = s then aLast a s + 1 else σ.1 56 t := by
    intro t
    by_cases q : t = s
    · rw [if_pos q, q, setI_f (by decide), setI_f (by decide), setI_f (by decide), setI_e]
      rfl
    · rw [if_neg q, setI_f (by decide), setI_f (by decide), setI_f (by decide), setI_i q]
  have v59 : ∀ i, (setI (setI (setI (setI σ 56 s (aS a 56 s + 1)) 59 (lPn a s) e.1) 60 (lPn a s) e.2.1) 61 (lPn a s) e.2.2.1).1 59 i = if i = lPn a s then e.1 else σ.1 59 i := by
    intro i
    by_cases q : i = lPn a s
    · rw [if_pos q, q, setI_f (by decide), setI_f (by decide), setI_e]
    · rw [if_neg q, setI_f (by decide), setI_f (by decide), setI_i q, setI_f (by decide)]
  have v60 : ∀ i, (setI (setI (setI (setI σ 56 s (aS a 56 s + 1)) 59 (lPn a s) e.1) 60 (lPn a s) e.2.1) 61 (lPn a s) e.2.2.1).1 60 i = if i = lPn a s then e.2.1 else σ.1 60 i := by
    intro i
    by_cases q : i = lPn a s
    · rw [if_pos q, q, setI_f (by decide), setI_e]
    · rw [if_neg q, setI_f (by decide), setI_i q, setI_f (by decide), setI_f (by decide)]
  have v61 : ∀ i, (setI (setI (setI (setI σ 56 s (aS a 56 s + 1)) 59 (lPn a s) e.1) 60 (lPn a s) e.2.1) 61 (lPn a s) e.2.2.1).1 61 i = if i = lPn a s then e.2.2.1 else σ.1 61 i := by
    intro i
    by_cases q : i = lPn a s
    · rw [if_pos q, q, setI_e]
    · rw [if_neg q, setI_i q, setI_f (by decide), setI_f (by decide), setI_f (by decide)]
  have z37 : (setI (setI (setI (setI σ 56 s (aS a 56 s + 1)) 59 (lPn a s) e.1) 60 (lPn a s) e.2.1) 61 (lPn a s) e.2.2.1).1 37 (2 * (16 * s + g)) = Int32.ofNat S := e37
  clear e37 e49 e50
  generalize setI (setI (setI (setI σ 56 s (aS a 56 s + 1)) 59 (lPn a s) e.1) 60 (lPn a s) e.2.1) 61 (lPn a s) e.2.2.1 = σ2 at hF2 v56 v59 v60 v61 z37
  have hd : ∀ t, t < 7 → RDk (aAk a) (setI σ2 62 (lPn a s) (Int32.ofNat S)) t (aFc a t) (aFk a t) := fun t ht => RDk_fr (Fr_t hF2 Fr_I) (by decide) (h.2.2.2.2.2.1 t ht)
  have sdd : SLd (2 * (16 * s + g)) (setI σ2 62 (lPn a s) (Int32.ofNat S)) (setI (setI σ2 44 (16 * s + g) (1 &&& 1)) 62 (lPn a s) (Int32.ofNat S)) := SLd_X (SLd_I SLd_refl (by unfold FOf; omega))
  have hF4 : Fr [56, 59, 60, 61, 62, 44] [] σ (setI (setI σ2 44 (16 * s + g) (1 &&& 1)) 62 (lPn a s) (Int32.ofNat S)) := Fr_w (Fr_t (Fr_t hF2 Fr_I) Fr_I) (by simp) (by simp)
  have x62 : ∀ i, (setI (setI σ2 44 (16 * s + g) (1 &&& 1)) 62 (lPn a s) (Int32.ofNat S)).1 62 i = if i = lPn a s then Int32.ofNat S else σ.1 62 i := by
    intro i
    by_cases q : i = lPn a s
    · rw [if_pos q, q, setI_e]
    · rw [if_neg q, setI_i q, setI_f (by decide), hF2.1 62 (by decide)]
  have x44 : (setI (setI σ2 44 (16 * s + g) (1 &&& 1)) 62 (lPn a s) (Int32.ofNat S)).1 44 (16 * s + g) = 1 := by
    rw [setI_f (by decide), setI_e]
    rfl
  have xo : ∀ f, f ≠ 44 → f ≠ 62 → ∀ i, (setI (setI σ2 44 (16 * s + g) (1 &&& 1)) 62 (lPn a s) (Int32.ofNat S)).1 f i = σ2.1 f i := by
    intro f q1 q2 i
    rw [setI_f q2, setI_f q1]
  have x37 : (setI (setI σ2 44 (16 * s + g) (1 &&& 1)) 62 (lPn a s) (Int32.ofNat S)).1 37 (2 * (16 * s + g)) = Int32.ofNat S := (xo 37 (by decide) (by decide) _).trans z37
  generalize setI (setI σ2 44 (16 * s + g) (1 &&& 1)) 62 (lPn a s) (Int32.ofNat S) = σ4 at sdd hF4 x62 x44 xo x37
  have w0 : Wr (2 * (16 * s + g)) σ4 σ4 S [] := Wr_0 x37
  refine WP_call (Wr_lay hk w0 (by simp; omega)) (fun τ1 w1 => ?_)
  refine WP_call (Wr_lay hk w1 (by simp [a4]; omega)) (fun τ2 w2 => ?_)
  refine WP_call (Wr_lay hk w2 (by simp [a4]; omega)) (fun τ3 w3 => ?_)
  refine WP_call (Wr_lay hk w3 (by simp [a4]; omega)) (fun τ4 w4 => ?_)
  refine WP_call (Wr_lay hk w4 (by simp [a4]; omega)) (fun τ5 w5 => ?_)
  refine WP_call (Wr_lay hk w5 (by simp [a4]; omega)) (fun τ6 w6 => ?_)
  refine WP_ld rfl 224 (by decide +kernel) hk ?_
  refine WP_st rfl 224 (by decide +kernel) hk ?_
  rw [w6.2.2.1]
  have w7 := Wr_skip w6
  have hl7 : S + (([] ++ (a4 (17 + e.2.2.1)).map some ++ (a4 0).map some ++ (a4 e.1).map some ++ (a4 e.2.1).map some ++ (a4 e.2.2.1).map some ++ (a4 0).map some) ++ [none] : List (Option Int32)).length = S + 25 := rfl
  generalize hτ7 : setI τ6 37 (2 * (16 * s + g)) (Int32.ofNat (S + ([] ++ (a4 (17 + e.2.2.1)).map some ++ (a4 0).map some ++ (a4 e.1).map some ++ (a4 e.2.1).map some ++ (a4 e.2.2.1).map some ++ (a4 0).map some : List (Option Int32)).length) + 1) = τ7 at w7
  have fin : ∀ τ, Wr (2 * (16 * s + g)) σ4 τ S (([] ++ (a4 (17 + e.2.2.1)).map some ++ (a4 0).map some ++ (a4 e.1).map some ++ (a4 e.2.1).map some ++ (a4 e.2.2.1).map some ++ (a4 0).map some) ++ [none] ++ eCon (aAk a) e) → RM τ (aApp3 a s g e) u := by
    intro τ w
    have w : Wr (2 * (16 * s + g)) σ4 τ S (eFrame (aAk a) e) := w
    obtain ⟨y1, y2, y3, y4, y5⟩ := w
    have y56 : ∀ f, f ≠ 37 → ∀ i, τ.1 f i = σ4.1 f i := fun f q i => by rw [y2.1 f (by simp; exact q)]
    refine RM_app3 h hs hup hz h1 h2 hc hS hS2 he he2 (Fr_w (Fr_t hF4 y2) (by simp) (by simp)) (fun t => ?_) (fun f f1 f2 i hi => ?_) ?_ ?_ ?_ ?_ hcon _ hd (SLd_t sdd y1) ?_ y3 (fun y hy => ?_) y5
    · rw [y56 56 (by decide), xo 56 (by decide) (by decide)]
      exact v56 t
    · rw [y56 f (by omega)]
      have : f = 59 ∨ f = 60 ∨ f = 61 ∨ f = 62 := by omega
      rcases this with rfl | rfl | rfl | rfl
      · rw [xo 59 (by decide) (by decide), v59, if_neg hi]
      · rw [xo 60 (by decide) (by decide), v60, if_neg hi]
      · rw [xo 61 (by decide) (by decide), v61, if_neg hi]
      · rw [x62, if_neg hi]
    · rw [y56 59 (by decide), xo 59 (by decide) (by decide), v59, if_pos rfl]
    · rw [y56 60 (by decide), xo 60 (by decide) (by decide), v60, if_pos rfl]
    · rw [y56 61 (by decide), xo 61 (by decide) (by decide), v61, if_pos rfl]
    · rw [y56 62 (by decide), x62, if_pos rfl]
    · rw [y56 44 (by decide)]
      exact x44
    · have := y4 y hy
      rw [show dB τ (2 * rFx s g) y = dB τ (2 * (16 * s + g)) y from rfl, this]
      unfold dB
      rw [hF4.2 36 (by decide)]
      rfl
  have hcon4 : bM (fun q => rB (σ4.2 63) (256 * lPn a s + q)) (eCon (aAk a) e) 256 := by
    rw [hF4.2 63 (by decide)]
    exact hcon
  have key := app_loop (F := F) (s := s) (kd := e.2.1) (Q := fun σ' => RM σ' (aSoil (if e.2.1 = 1 then aI (aI (aApp3 a s g e) 64 s (aLast a s + 1)) 65 s e.2.2.2.1 else aApp3 a s g e) s) u) hk hp w7 (by rw [hl7]; omega) he2 hcon4 (fun τ hτ => ?_) F 0 τ7 (by omega) (Nat.zero_le _) w7.1 w7.2.1 w7.2.2.1 (fun _ _ => rfl) (fun y hy => absurd hy (Nat.not_lt_zero _))
  · rw [← he.1] at key
    exact key
  · have hr := fin τ hτ
    refine WP_if c2_ne (fun q => ?_) (fun q => ?_)
    · rw [if_neg q]
      unfold m_append_b453
      exact WP_call (M_soil hr hs) (fun p hp => WP_some hp)
    · have q := Classical.not_not.mp q
      rw [if_pos q]
      refine WP_call (M_findCode hF hr hs) (fun p9 hp9 => ?_)
      unfold m_append_b453
      have ef : aFindCode (aApp3 a s g e) s = aI (aI (aApp3 a s g e) 64 s (aLast a s + 1)) 65 s e.2.2.2.1 := by
        unfold aFindCode
        rw [aLg_app3, if_pos rfl, aMemAt_s, aMemC_s, if_pos q, if_pos q]
        have : aBase (aApp3 a s g e) s + Int32.ofNat ((aLg a s).length + 1) = aLast a s + 1 := by
          rw [lPn_e (RM_wl h hs)]
          show aBase a s + _ = _
          rw [Int32.add_assoc, Int32.add_comm 1, i_s]
        rw [this]
      rw [ef] at hp9
      exact WP_call (M_soil hp9 hs) (fun p hp => WP_some hp)
/-- what an append asks for -/
def pApp (a : AA) (s : Nat) : Prop := (aLg a s).length < 300 ∧ (aLast a s).toInt + 1 < 1073741824 ∧ (aCh a s = [] ∨ 8000 < (aFc a s ((aCh a s).getLastD 0)).1 1 → (aCh a s).length < 12)
theorem getLastD_app {c : List Nat} {g : Nat} : (c ++ [g]).getLastD 0 = g := by
  rw [List.getLastD_eq_getLast?]
  simp
theorem M_append {F : Nat} {σ : RS} {a : AA} {u : AU} {s : Nat} {e : AE} (hF : 400 ≤ F) (h : RM σ a u) (hs : s < 7) (hup : aS a 52 s = 1) (hz : u.2 s) (hp : pApp a s) (he : wfE (aAk a) e) (he2 : (eCon (aAk a) e).length ≤ 256)
    (hcon : bM (fun q => rB (σ.2 63) (256 * lPn a s + q)) (eCon (aAk a) e) 256) : WP (m_append F σ (Int32.ofNat s) e.1 e.2.1 e.2.2.1) (fun σ' => RM σ' (A_append a s e) u) := by
  obtain ⟨h1, h2, h3⟩ := hp
  have wl := RM_wl h hs
  have hw := h.2.2.2.2.2.2.2.2.2.2.2.2.2.2.2.2.2.2.2.2.2.1 s hs hz hup
  have hch := h.2.2.2.2.2.2.2.1 s hs hup
  -- a new segment
  have opens : (aCh a s = [] ∨ 8000 < (aFc a s ((aCh a s).getLastD 0)).1 1) → WP (m_append_b64 F σ (Int32.ofNat s) e.1 e.2.1 e.2.2.1 (aLastTerm a s) (Int32.ofNat (aCh a s).length)) (fun σ' => RM σ' (A_append a s e) u) := by
    intro q
    have hl := h3 q
    have hex : ∃ f, 4 ≤ f ∧ f < 16 ∧ (aFc a s f).1 0 = 0 := by
      obtain ⟨f, y⟩ := free_ex hw hl
      rcases y with y | ⟨f, y1, y2, y3, y4⟩
      · exact ⟨f, y⟩
      · have := (h.2.2.2.2.2.1 s hs f y2).1.2.1
        exact absurd this (fun z => z.elim y3 y4)
    obtain ⟨f, f1, f2, f3, f4, f5⟩ := aFree_e hex
    unfold m_append_b64 m_append_b69
    refine WP_if c0_eq (fun y => absurd y (by decide)) (fun _ => ?_)
    refine M_seg1 h hs hup hz hl f2 f3 f4 f5 (fun τ hτ _ h63 => ?_) F 4 (by omega) (by omega) f2
    have eseg : aSeg a s = (aSeg1 a s f, f) := by
      unfold aSeg
      dsimp only
      rw [if_pos q, f1]
      rfl
    have efc : aFc (aSeg1 a s f) s f = aSegF a s := by
      show aFc (aPut a s f (aSegF a s)) s f = _
      rw [aFc_put, if_pos ⟨rfl, rfl⟩]
    have elg : aLg (aSeg1 a s f) s = aLg a s := rfl
    have key := M_app228 (g := f) (S := 24) (c := aCh a s) (e := e) hF hτ hs hup hz h1 h2 (if_pos rfl) (by rw [efc]; rfl) (by omega) he he2 (by
      show bM (fun q => rB (τ.2 63) (256 * lPn a s + q)) _ 256
      rw [show τ.2 63 = σ.2 63 from funext h63]
      exact hcon)
    have eA : A_append a s e = aSoil (if e.2.1 = 1 then aI (aI (aApp3 (aSeg1 a s f) s f e) 64 s (aLast (aSeg1 a s f) s + 1)) 65 s e.2.2.2.1 else aApp3 (aSeg1 a s f) s f e) s := by
      unfold A_append
      rw [eseg]
      rfl
    rw [eA]
    exact key
  unfold m_append m_append_b0
  refine WP_r7 h (by decide) hs ?_
  refine WP_eq (M_lastTerm h hs) ?_
  refine WP_ld rfl 7 (by decide +kernel) hs ?_
  rw [hch.1]
  have hlen := hch.2.1
  refine WP_if (p := (aCh a s).length = 0) (by
    rw [c0_eq, show (0 : Int32) = Int32.ofNat 0 from rfl, i_eqi (by omega) (by omega)]) (fun q => ?_) (fun q => ?_)
  · exact opens (Or.inl (List.eq_nil_of_length_eq_zero q))
  · refine WP_if c0_ne (fun _ => ?_) (fun y => ?_)
    · have hne : aCh a s ≠ [] := fun z => q (by rw [z]; rfl)
      obtain ⟨c, g, hc⟩ : ∃ c g, aCh a s = c ++ [g] := ⟨(aCh a s).dropLast, (aCh a s).getLast hne, (List.dropLast_concat_getLast hne).symm⟩
      have hlc : (aCh a s).length = c.length + 1 := by rw [hc]; simp
      have hgi : (aCh a s).getD c.length 0 = g := by
        rw [hc, List.getD_eq_getElem?_getD, List.getElem?_append_right (Nat.le_refl _), Nat.sub_self]
        rfl
      have hgd : (aCh a s).getLastD 0 = g := by rw [hc, getLastD_app]
      have hg := hch.2.2 c.length (by omega)
      rw [hgi] at hg
      obtain ⟨g4, g16, g50, g51⟩ := hg
      have z0 := (h.2.2.2.2.2.1 s hs g g16).1
      unfold m_append_b52
      rw [hlc, i_pre (by omega), show (12 : Int32) * Int32.ofNat s + Int32.ofNat (c.length + 1 - 1) = Int32.ofNat (12 * s + c.length) from i_ma]
      refine WP_ld rfl 84 (by decide +kernel) (by omega) ?_
      rw [g50]
      refine WP_eq m_fileOf_n ?_
      refine WP_ld rfl 224 (by decide +kernel) (by omega) ?_
      rw [show σ.1 37 (2 * (16 * s + g)) = (aFc a s g).1 1 from z0.2.2.1]
      refine WP_if c2_le (fun q2 => ?_) (fun q2 => ?_)
      · unfold m_append_b69
        refine WP_if c0_eq (fun _ => ?_) (fun y => absurd rfl y)
        obtain ⟨S, s1, s2, s3, _⟩ := z0.2.2.2.1
        have hS8 : S ≤ 8000 := by
          rw [s2, Int32.le_iff_toInt_le, Int32.toInt_ofNat_of_lt (by omega), show (8000 : Int32).toInt = 8000 by decide] at q2
          omega
        have key := M_app228 (e := e) hF h hs hup hz h1 h2 hc s2 hS8 he he2 hcon
        have eseg : aSeg a s = (a, g) := by
          unfold aSeg
          dsimp only
          rw [hgd, if_neg]
          rintro (z | z)
          · exact hne z
          · exact i_nlt.mpr q2 z
        have eA : A_append a s e = aSoil (if e.2.1 = 1 then aI (aI (aApp3 a s g e) 64 s (aLast a s + 1)) 65 s e.2.2.2.1 else aApp3 a s g e) s := by
          unfold A_append
          rw [eseg]
          rfl
        rw [eA]
        exact key
      · rw [← hlc]
        refine opens (Or.inr ?_)
        rw [hgd]
        exact i_nle.mp q2
    · have : (aCh a s).length = 0 := by
        have := Classical.not_not.mp y
        rw [show (0 : Int32) = Int32.ofNat 0 from rfl, i_eqi (by omega) (by omega)] at this
        exact this
      exact absurd this q
