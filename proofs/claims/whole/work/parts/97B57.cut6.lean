theorem A_cutLog_0 {a : AA} {s : Nat} {n : Int32} {rest : List Nat} (e1 : aFrom a s n (aCh a s) = rest) (e2 : aBelow a s n (aCh a s) = []) : A_cutLog a s n = aSoil (aFindCode (aI (aLgS (aI (aChS (aRemoveAll a s rest) s []) 56 s (n - 1)) s ((aLg a s).take (n - 1 - aBase a s).toNatClampNeg)) 77 s (aMin (aS a 77 s) (n - 1))) s) s := by
  unfold A_cutLog
  dsimp only
  rw [e1, e2]
  rfl
theorem A_cutLog_1 {a : AA} {s f : Nat} {n : Int32} {p rest : List Nat} (e1 : aFrom a s n (aCh a s) = rest) (e2 : aBelow a s n (aCh a s) = p ++ [f]) : A_cutLog a s n = aSoil (aFindCode (aI (aLgS (aI (aCut (aChS (aRemoveAll a s rest) s (p ++ [f])) s f (Int32.ofInt (aFrame (aFc (aChS (aRemoveAll a s rest) s (p ++ [f])) s f).2.1 (n - (aFc (aChS (aRemoveAll a s rest) s (p ++ [f])) s f).1 2).toNatClampNeg))) 56 s (n - 1)) s ((aLg a s).take (n - 1 - aBase a s).toNatClampNeg)) 77 s (aMin (aS a 77 s) (n - 1))) s) s := by
  unfold A_cutLog
  dsimp only
  rw [e1, e2, List.getLast?_concat]
theorem M_cutLog {F : Nat} {σ : RS} {a : AA} {u : AU} {s : Nat} {n : Int32} (hF : 400 ≤ F) (h : RM σ a u) (hs : s < 7) (hup : aS a 52 s = 1) (hz : u.2 s) (hr : ¬ aS a 73 s = 3) (hn1 : aBase a s < n) (hn2 : n ≤ aLast a s) (hmk : u.2 (14 + s) → aS a 75 s < n) : WP (m_cutLog F σ (Int32.ofNat s) n) (fun τ => RM τ (A_cutLog a s n) u) := by
  have wl := RM_wl h hs
  obtain ⟨w1, w2, w3, w4⟩ := id wl
  have hn1' := Int32.lt_iff_toInt_lt.mp hn1
  have hn2' := Int32.le_iff_toInt_le.mp hn2
  obtain ⟨c1, c2, c3⟩ := h.2.2.2.2.2.2.2.2.2.2.2.2.2.2.2.2.2.2.2.2.2.1 s hs hz hup
  obtain ⟨n0, n01, n02, hok⟩ : ∃ n0 : Int, 1 ≤ n0 ∧ n0 ≤ (aBase a s).toInt + 1 ∧ chOK (aFc a s) ((aLast a s).toInt + 1) n0 (aCh a s) := by
    rcases c3 with ⟨_, z⟩ | z
    · have := congrArg Int32.toInt z
      omega
    · exact z
  have mk : u.2 (14 + s) → WMk a s ∧ aS a 75 s < n := fun z => ⟨h.2.2.2.2.2.2.2.2.2.2.2.2.2.2.2.2.2.2.2.2.2.2.1 s hs z, hmk z⟩
  have h0 : RM σ a (u.1, fun x => (u.2 x ∧ x ≠ s) ∧ x ≠ 14 + s) := RM_off (RM_off h s) (14 + s)
  have hes := fun g (hg : g < 16) => ((h.2.2.2.2.2.1 s hs g hg).1).2.2.2.2.1
  have hsz := fun g (hg : g < 16) => ((h.2.2.2.2.2.1 s hs g hg).1).2.2.2.1
  show WP (m_cutLog_b2 F F σ (Int32.ofNat s) n (aB false)) _
  refine cut_loop (a := a) (u := (u.1, fun x => (u.2 x ∧ x ≠ s) ∧ x ≠ 14 + s)) hs hup (fun z => z.1.2 rfl) ?_ F (aCh a s) [] false σ ?_ (List.append_nil _) ?_ (fun x hx => absurd hx List.not_mem_nil) ⟨fun y => absurd y (by decide), fun y => y.elim (fun x z => absurd z.1 List.not_mem_nil)⟩
  · intro pre rest m τ e1 hτ h4 h5 h6
    rw [← e1] at hok c1 c2
    obtain ⟨nd1, nd2, nd3⟩ := List.nodup_append.mp c1
    rw [rmAll_rev rest a nd2] at hτ
    obtain ⟨mI, k1, k2⟩ := chOK_split pre rest n0 hok
    -- where the rest begins
    have rfst : ∀ x r, rest = x :: r → ((aFc a s x).1 2).toInt = mI := fun x r e => by
      rw [e] at k2
      exact k2.2.2.2.1
    have rmem : ∀ x ∈ rest, mI ≤ ((aFc a s x).1 2).toInt := fun x hx => (chOK_mem rest mI k2 x hx).2.2.2.2.1
    have nmI : n.toInt ≤ mI := by
      cases hre : rest with
      | nil =>
        rw [hre] at k2
        have k2 : mI = (aLast a s).toInt + 1 := k2
        omega
      | cons x r =>
        have := Int32.le_iff_toInt_le.mp (h4 x (by rw [hre]; exact List.mem_cons_self))
        rw [rfst x r hre] at this
        exact this
    have fr0 : AFr [43] [6, 8] a (aChS (aRemoveAll a s rest) s pre) := AFr_w (AFr_t (rmAll_ot rest a) AFr_ch) (by decide) (by decide)
    have echb : aCh (aChS (aRemoveAll a s rest) s pre) s = pre := if_pos rfl
    have efc : ∀ g, g ∉ rest → aFc (aChS (aRemoveAll a s rest) s pre) s g = aFc a s g := fun g hg => (rmAll_fc rest a s g).2.1 (fun z => hg z.2)
    have efr : ∀ g, g ∈ rest → (aFc (aChS (aRemoveAll a s rest) s pre) s g).1 0 = 0 := fun g hg => (rmAll_fc rest a s g).2.2 ⟨rfl, hg⟩
    have used : ∀ g, 4 ≤ g → g < 16 → (aFc (aChS (aRemoveAll a s rest) s pre) s g).1 0 = 1 → g ∈ pre := by
      intro g g1 g2 g3
      by_cases q : g ∈ rest
      · rw [efr g q] at g3
        exact absurd g3 (by decide)
      · rw [efc g q] at g3
        exact (List.mem_append.mp (c2 g g1 g2 g3)).resolve_right q
    have hloc := (RM_loc hτ).2.2.1 s hs
    by_cases hpre : pre = []
    · subst hpre
      have k1 : n0 = mI := k1
      have hm : m = true := by
        refine h5.mpr ?_
        cases hre : rest with
        | nil =>
          rw [hre] at k2
          have k2 : mI = (aLast a s).toInt + 1 := k2
          omega
        | cons x r =>
          refine ⟨x, List.mem_cons_self, Int32.toInt_inj.mp ?_⟩
          rw [rfst x r hre]
          omega
      have hfil := cut_filter (a := a) (s := s) (n := n) (pre := []) (rest := rest) (fun x hx => absurd hx List.not_mem_nil) h4
      rw [e1] at hfil
      rw [A_cutLog_0 hfil.1 hfil.2, hm]
      unfold m_cutLog_b97
      refine WP_if c0_ne (fun _ => ?_) (fun y => absurd (show ¬ (1 : Int32) = 0 by decide) y)
      refine cut_end hF hs hτ fr0 hr hn1 hn2 wl mk (by rw [echb]; exact List.nodup_nil) (fun g g1 g2 g3 => absurd (used g g1 g2 g3) List.not_mem_nil) (Or.inl ⟨echb, by omega⟩)
    · obtain ⟨p, f, hpf⟩ : ∃ p f, pre = p ++ [f] := ⟨pre.dropLast, pre.getLast hpre, (List.dropLast_concat_getLast hpre).symm⟩
      subst hpf
      have hff : (aFc a s f).1 2 < n := h6 p f rfl
      have hff' := Int32.lt_iff_toInt_lt.mp hff
      have hfm : f ∈ p ++ [f] := List.mem_append_right _ List.mem_cons_self
      have hfr : f ∉ rest := fun z => nd3 f hfm f z rfl
      have hend := chOK_end p n0 k1
      obtain ⟨m1, p1, p2⟩ := chOK_split p [f] n0 k1
      obtain ⟨q1, q2, q3, q4, q5, q6⟩ := p2
      have plt : ∀ x ∈ p ++ [f], (aFc a s x).1 2 < n := by
        intro x hx
        rcases List.mem_append.mp hx with hx | hx
        · have := (chOK_mem p n0 p1 x hx).2.2.2.2.2
          exact Int32.lt_iff_toInt_lt.mpr (by omega)
        · rw [List.mem_singleton.mp hx]
          exact hff
      have hfil := cut_filter (a := a) (s := s) (n := n) plt h4
      rw [e1] at hfil
      rw [A_cutLog_1 hfil.1 hfil.2]
      have eG := efc f hfr
      rw [eG]
      have hn0 := (chOK_mem (p ++ [f]) n0 k1 f hfm).2.2.2.2.1
      obtain ⟨k, hk⟩ : ∃ k : Nat, n.toInt - ((aFc a s f).1 2).toInt = k := ⟨(n.toInt - ((aFc a s f).1 2).toInt).toNat, by omega⟩
      have ekk : (n - (aFc a s f).1 2).toNatClampNeg = k := by
        have e := i_subI (x := n) (y := (aFc a s f).1 2) (by omega) (by omega)
        have := i_nat (x := n - (aFc a s f).1 2) (by rw [Int32.le_iff_toInt_le, i_0, e]; omega)
        omega
      rw [ekk]
      have hkW : k ≤ (aWhole (aFc a s f)).length := by omega
      have hpos : ∀ e ∈ (aFc a s f).2.1, 25 ≤ aEsz e := fun e he => aEsz_pos (hes f q2 e he).1 (hes f q2 e he).2
      have hmono := aFrame_mono hpos hkW
      obtain ⟨S, S1, S2, _⟩ := hsz f q2
      have hSi : ((aFc a s f).1 1).toInt = S := by rw [S2, Int32.toInt_ofNat_of_lt (by omega)]
      have eV : (Int32.ofInt (aFrame (aFc a s f).2.1 k)).toInt = aFrame (aFc a s f).2.1 k := Int32.toInt_ofInt_of_le (by omega) (by omega)
      have hVle : aMin ((aFc a s f).1 1) (Int32.ofInt (aFrame (aFc a s f).2.1 k)) = Int32.ofInt (aFrame (aFc a s f).2.1 k) := by
        unfold aMin
        by_cases z : (aFc a s f).1 1 ≤ Int32.ofInt (aFrame (aFc a s f).2.1 k)
        · rw [if_pos z]
          refine Int32.toInt_inj.mp ?_
          rw [Int32.le_iff_toInt_le] at z
          omega
        · rw [if_neg z]
      -- the file behind the cut
      have ecf : aFc (aCut (aChS (aRemoveAll a s rest) s (p ++ [f])) s f (Int32.ofInt (aFrame (aFc a s f).2.1 k))) s f = (aU (aFc a s f).1 1 (Int32.ofInt (aFrame (aFc a s f).2.1 k)), (aFc a s f).2) := by
        unfold aCut
        dsimp only
        refine aFc_put.trans ?_
        rw [if_pos ⟨rfl, rfl⟩, eG, hVle]
      have eco : ∀ g, g ≠ f → aFc (aCut (aChS (aRemoveAll a s rest) s (p ++ [f])) s f (Int32.ofInt (aFrame (aFc a s f).2.1 k))) s g = aFc (aChS (aRemoveAll a s rest) s (p ++ [f])) s g := by
        intro g hg
        unfold aCut
        dsimp only
        refine aFc_put.trans ?_
        rw [if_neg (fun z => hg z.2)]
      have ecc : aCh (aCut (aChS (aRemoveAll a s rest) s (p ++ [f])) s f (Int32.ofInt (aFrame (aFc a s f).2.1 k))) s = p ++ [f] := echb
      have frc : AFr [43] [6, 8] a (aCut (aChS (aRemoveAll a s rest) s (p ++ [f])) s f (Int32.ofInt (aFrame (aFc a s f).2.1 k))) := by
        unfold aCut
        exact AFr_w (AFr_t (AFr_t fr0 AFr_put) AFr_I) (by decide) (by decide)
      have go : ∀ (τ' : RS), RM τ' (aCut (aChS (aRemoveAll a s rest) s (p ++ [f])) s f (Int32.ofInt (aFrame (aFc a s f).2.1 k))) (u.1, fun x => (u.2 x ∧ x ≠ s) ∧ x ≠ 14 + s) → WP (m_cutLog_b134 F τ' (Int32.ofNat s) n) (fun τ => RM τ (aSoil (aFindCode (aI (aLgS (aI (aCut (aChS (aRemoveAll a s rest) s (p ++ [f])) s f (Int32.ofInt (aFrame (aFc a s f).2.1 k))) 56 s (n - 1)) s ((aLg a s).take (n - 1 - aBase a s).toNatClampNeg)) 77 s (aMin (aS a 77 s) (n - 1))) s) s) u) := by
        intro τ' hτ'
        refine cut_end hF hs hτ' frc hr hn1 hn2 wl mk (by rw [ecc]; exact nd1) (fun g g1 g2 g3 => ?_) (Or.inr ⟨n0, n01, n02, ?_⟩)
        · rw [ecc]
          by_cases z : g = f
          · rw [z]
            exact hfm
          · rw [eco g z] at g3
            exact used g g1 g2 g3
        · rw [ecc]
          refine chOK_app p n0 (chOK_f (fc := aFc a s) p n0 (fun g hg => ?_) p1) ?_
          · have z : g ≠ f := fun z => (List.nodup_append.mp nd1).2.2 g hg f List.mem_cons_self z
            rw [eco g z]
            exact efc g (fun y => nd3 g (List.mem_append_left _ hg) g y rfl)
          · have eW : (aWhole (aFc (aCut (aChS (aRemoveAll a s rest) s (p ++ [f])) s f (Int32.ofInt (aFrame (aFc a s f).2.1 k))) s f)).length = k := by
              rw [ecf, aWhole_len]
              show aWholes (aFc a s f).2.1 ((Int32.ofInt (aFrame (aFc a s f).2.1 k)).toInt - 24) = k
              rw [eV]
              have hkl : k ≤ (aFc a s f).2.1.length := by
                rw [aWhole_len] at hkW
                exact Nat.le_trans hkW (aWholes_le _ _)
              rw [show aFrame (aFc a s f).2.1 k - 24 = (((aFc a s f).2.1.take k).map aEsz).sum by unfold aFrame; omega]
              exact aWholes_k _ k hkl hpos
            refine ⟨q1, q2, ?_, ?_, ?_, ?_⟩
            · rw [ecf]
              exact q3
            · rw [ecf]
              exact q4
            · rw [eW, ecf]
              exact eV
            · rw [eW]
              show m1 + (k : Int) = n.toInt
              omega
      unfold m_cutLog_b97
      cases m with
      | true =>
        refine WP_if c0_ne (fun _ => ?_) (fun y => absurd (show ¬ (1 : Int32) = 0 by decide) y)
        have hmn : mI = n.toInt := by
          obtain ⟨x, hx, ex⟩ := h5.mp rfl
          have := rmem x hx
          rw [ex] at this
          omega
        have hkk : k = (aWhole (aFc a s f)).length := by omega
        have eVV : Int32.ofInt (aFrame (aFc a s f).2.1 k) = (aFc a s f).1 1 := by
          refine Int32.toInt_inj.mp ?_
          rw [eV, hkk]
          exact q5.symm
        refine go τ ?_
        rw [eVV, ← eG, aCut_same ((hloc f q2).2)]
        exact hτ
      | false =>
        refine WP_if c0_ne (fun y => absurd rfl y) (fun _ => ?_)
        have eup : aS (aChS (aRemoveAll a s rest) s (p ++ [f])) 52 s = 1 := (fr0.1 52 (by decide) s).trans hup
        have hch := hτ.2.2.2.2.2.2.2.1 s hs eup
        have hat := hτ.2.2.2.2.2.2.2.2.1 s hs eup
        rw [echb] at hch hat
        unfold RCh at hch
        have hlen : (p ++ [f]).length = p.length + 1 := by simp
        rw [hlen] at hch
        obtain ⟨y1, y2, y3, y4⟩ := hch.2.2 p.length (by omega)
        rw [getD_l] at y1 y2 y3 y4
        have hl12 := hch.2.1
        refine WP_ld rfl 7 (by decide +kernel) hs ?_
        rw [hch.1, show (12 : Int32) * Int32.ofNat s + Int32.ofNat (p.length + 1) - 1 = Int32.ofNat (12 * s + p.length) by
          rw [show (12 : Int32) = Int32.ofNat 12 from rfl, i_ma, i_pre (by omega)]
          rfl]
        refine WP_ld rfl 84 (by decide +kernel) (by omega) ?_
        rw [y3]
        refine WP_eq m_logOf_n ?_
        refine WP_ld rfl 3584 (by decide +kernel) (rLp_lt (n := n) hs) ?_
        have hk2 : k < (aWhole (aFc a s f)).length := by
          rcases Nat.lt_or_ge k (aWhole (aFc a s f)).length with z | z
          · exact z
          · have hmn : mI = n.toInt := by omega
            cases hre : rest with
            | nil =>
              rw [hre] at k2
              have k2 : mI = (aLast a s).toInt + 1 := k2
              omega
            | cons x r =>
              have : false = true := h5.mpr ⟨x, by rw [hre]; exact List.mem_cons_self, Int32.toInt_inj.mp (by rw [rfst x r hre]; exact hmn)⟩
              exact nomatch this
        obtain ⟨i, hi⟩ : ∃ i : Nat, n.toInt = (aBase a s).toInt + 1 + i := ⟨(n.toInt - (aBase a s).toInt - 1).toNat, by omega⟩
        have ei : aBase a s + 1 + Int32.ofNat i = n := by
          refine Int32.toInt_inj.mp ?_
          have b1 : (aBase a s + 1).toInt = (aBase a s).toInt + 1 := by rw [i_addI (by rw [i_1]; omega) (by rw [i_1]; omega), i_1]
          have b2 : (Int32.ofNat i).toInt = i := Int32.toInt_ofNat_of_lt (by omega)
          rw [i_addI (by rw [b1, b2]; omega) (by rw [b1, b2]; omega), b1, b2]
          omega
        have ek : (aFc a s f).1 2 + Int32.ofNat k = n := by
          refine Int32.toInt_inj.mp ?_
          have b2 : (Int32.ofNat k).toInt = k := Int32.toInt_ofNat_of_lt (by omega)
          rw [i_addI (by rw [b2]; omega) (by rw [b2]; omega), b2]
          omega
        have e55 : aS (aChS (aRemoveAll a s rest) s (p ++ [f])) 55 s = aBase a s := fr0.1 55 (by decide) s
        have elg : aLg (aChS (aRemoveAll a s rest) s (p ++ [f])) s = aLg a s := by rw [fr0.2.2.2.1 (by decide)]
        have h62 := hat f hfm k i (by rw [elg]; omega) (by rw [eG]; exact hk2) (by rw [e55, eG, ei, ek])
        rw [e55, ei, eG] at h62
        rw [show τ.1 62 (512 * s + rMod n) = _ from h62]
        refine WP_call (M_cut hτ hs y2 (by omega) ?_ (fun z => z.1.2 rfl)) (fun τ2 h7 => go τ2 h7)
        rw [Int32.le_iff_toInt_le, i_0, eV]
        omega
  · have hch := h.2.2.2.2.2.2.2.1 s hs hup
    have := hch.2.1
    omega
  · show RM σ (aChS a s (aCh a s)) _
    rw [aChS_same]
    exact h0
