theorem seg_scan {F : Nat} {K196 : RS → Int32 → Int32 → Int32 → Int32 → Int32 → Int32 → Option RS} {K : List AK} {σ τ0 : RS} {s k S b n0 : Nat} {G : AF} {T t0 : Int32} {m0 z0 : Bool} {L0 : List (AE × Int32)} {Q : RS → Prop} (hF : 300 ≤ F) (hs : s < 7) (hG : SegF K σ k G S) (e36 : τ0.2 36 = σ.2 36) (e37 : τ0.1 37 k = Int32.ofNat S) (e55 : τ0.1 55 s = Int32.ofNat b) (e57 : τ0.1 57 s = T) (hb : b < 1073741824) (hn : n0 + (aWhole G).length < 1073741824)
    (hL : L0.length = n0 - b) (hmx : n0 + (aWhole G).length ≤ b + 300) (hL0 : Lgs K τ0 s b L0)
    (fin : ∀ τ, SLe s τ0 τ → Lgs K τ s b (scL K G b n0 L0 (aWhole G).length) → WP (m_recoverLog_b489 F K196 τ (Int32.ofNat s) (Int32.ofNat (n0 + (aWhole G).length)) (scT G t0 (aWhole G).length) (aB (scM G T b n0 m0 (aWhole G).length)) (aB (scZ b n0 z0 (aWhole G).length)) (Int32.ofNat k) (Int32.ofNat (ofs K G.2.1 (aWhole G).length)) (Int32.ofNat n0)) Q) :
    ∀ n i (τ : RS), (aWhole G).length + 1 ≤ i + n → i ≤ (aWhole G).length → SLe s τ0 τ → Lgs K τ s b (scL K G b n0 L0 i) → WP (m_recoverLog_b260 F K196 n τ (Int32.ofNat s) (Int32.ofNat (n0 + i)) (scT G t0 i) (aB (scM G T b n0 m0 i)) (aB (scZ b n0 z0 i)) (Int32.ofNat k) (Int32.ofNat (ofs K G.2.1 i)) (Int32.ofNat n0)) Q := by
  obtain ⟨hk, h24, hS14, h4, h6, h7, h8⟩ := id hG
  obtain ⟨w1, w2, w3, w4⟩ := seg_whole hG
  intro n
  induction n with
  | zero => intro i τ h1 h2; omega
  | succ n ih =>
    intro i τ h1 h2 hle hlg
    have f36 : τ.2 36 = σ.2 36 := by
      rw [← e36]
      funext j
      exact hle.2 36 j (by omega)
    have f37 : τ.1 37 k = Int32.ofNat S := by rw [hle.1 37 k (by omega)]; exact e37
    have f55 : τ.1 55 s = Int32.ofNat b := by rw [hle.1 55 s (by omega)]; exact e55
    have f57 : τ.1 57 s = T := by rw [hle.1 57 s (by omega)]; exact e57
    unfold m_recoverLog_b260
    refine WP_ld rfl 224 (by decide +kernel) hk ?_
    rw [f37]
    by_cases qi : i < (aWhole G).length
    · -- a whole frame
      have hi : i < G.2.1.length := by omega
      have hmem : G.2.1.getD i aE0 ∈ G.2.1 := by
        rw [List.getD_eq_getElem?_getD, List.getElem?_eq_getElem hi]
        exact List.getElem_mem _
      obtain ⟨we, wl⟩ := h8 _ hmem
      have hos := ofs_s (K := K) hi
      have hoS : ofs K G.2.1 (i + 1) ≤ S := by
        have mono : ∀ d, i + 1 + d ≤ (aWhole G).length → ofs K G.2.1 (i + 1) ≤ ofs K G.2.1 (i + 1 + d) := by
          intro d
          induction d with
          | zero => exact fun _ => Nat.le_refl _
          | succ d ihd =>
            intro hd
            have h1' := ihd (by omega)
            have h2' := ofs_s (K := K) (es := G.2.1) (i := i + 1 + d) (by omega)
            have : i + 1 + (d + 1) = i + 1 + d + 1 := by omega
            rw [this]
            omega
        have := mono ((aWhole G).length - (i + 1)) (by omega)
        rw [show i + 1 + ((aWhole G).length - (i + 1)) = (aWhole G).length by omega] at this
        omega
      obtain ⟨r0, r1⟩ := seg_nums (τ := τ) hG f36 hi
      have r0 := r0 (by omega)
      obtain ⟨r8, r12, r16⟩ := r1 (by omega)
      rw [show Int32.ofNat (ofs K G.2.1 i) + 8 = Int32.ofNat (ofs K G.2.1 i + 8) from i_ad (s := 8)]
      refine WP_if (p := False) (by rw [c2_gt, Int32.lt_iff_toInt_lt, Int32.toInt_ofNat_of_lt (by omega), Int32.toInt_ofNat_of_lt (by omega)]; exact ⟨fun y => by omega, fun y => y.elim⟩) (fun y => y.elim) (fun _ => ?_)
      refine WP_eq r0 ?_
      refine WP_ld rfl 224 (by decide +kernel) hk ?_
      rw [f37]
      have ew : (17 : Int32) + (G.2.1.getD i aE0).2.2.1 = Int32.ofNat (17 + (eCon K (G.2.1.getD i aE0)).length) := by
        rw [we.1, show (17 : Int32) = Int32.ofNat 17 from rfl, i_ad]
      have ew2 : Int32.ofNat (ofs K G.2.1 i + 8) + ((17 : Int32) + (G.2.1.getD i aE0).2.2.1) = Int32.ofNat (ofs K G.2.1 (i + 1)) := by
        rw [ew, i_ad, hos]
        congr 1
        omega
      rw [ew2]
      refine WP_if (p := False) (by rw [c2_gt, Int32.lt_iff_toInt_lt, Int32.toInt_ofNat_of_lt (by omega), Int32.toInt_ofNat_of_lt (by omega)]; exact ⟨fun y => by omega, fun y => y.elim⟩) (fun y => y.elim) (fun _ => ?_)
      refine WP_eq r8 ?_
      refine WP_ld rfl 7 (by decide +kernel) hs ?_
      rw [f55, i_s]
      have et : scT G t0 (i + 1) = (G.2.1.getD i aE0).1 := by
        unfold scT
        rw [if_neg (by omega), Nat.add_sub_cancel]
      -- the end of a frame
      have b470 : ∀ (x y : Bool) (τ2 : RS), scM G T b n0 m0 (i + 1) = x → scZ b n0 z0 (i + 1) = y → SLe s τ0 τ2 → Lgs K τ2 s b (scL K G b n0 L0 (i + 1)) → WP (m_recoverLog_b470 F K196 (m_recoverLog_b260 F K196 n) τ2 (Int32.ofNat s) (Int32.ofNat (n0 + i + 1)) (G.2.1.getD i aE0).1 (aB x) (aB y) (Int32.ofNat k) (Int32.ofNat (ofs K G.2.1 i)) (Int32.ofNat n0)) Q := by
        intro x y τ2 ex ey hle2 hlg2
        have g36 : τ2.2 36 = σ.2 36 := by
          rw [← e36]
          funext j
          exact hle2.2 36 j (by omega)
        unfold m_recoverLog_b470
        refine WP_eq ((seg_nums (τ := τ2) hG g36 hi).1 (by omega)) ?_
        have e8 : Int32.ofNat (ofs K G.2.1 i) + (8 + ((17 : Int32) + (G.2.1.getD i aE0).2.2.1)) = Int32.ofNat (ofs K G.2.1 (i + 1)) := by
          rw [← Int32.add_assoc, show Int32.ofNat (ofs K G.2.1 i) + 8 = Int32.ofNat (ofs K G.2.1 i + 8) from i_ad (s := 8)]
          exact ew2
        rw [e8, ← ex, ← ey, ← et]
        exact ih (i + 1) τ2 (by omega) (by omega) hle2 hlg2
      have b346 : ∀ (x y : Bool), scM G T b n0 m0 (i + 1) = x → scZ b n0 z0 (i + 1) = y → WP (m_recoverLog_b346 F K196 (m_recoverLog_b260 F K196 n) τ (Int32.ofNat s) (Int32.ofNat (n0 + i + 1)) (G.2.1.getD i aE0).1 (aB x) (aB y) (Int32.ofNat k) (Int32.ofNat (ofs K G.2.1 i)) (Int32.ofNat n0)) Q := by
        intro x y ex ey
        unfold m_recoverLog_b346
        refine WP_ld rfl 7 (by decide +kernel) hs ?_
        rw [f55]
        refine WP_if (p := n0 + i + 1 ≤ b) (i_lei (by omega) (by omega)) (fun q => ?_) (fun q => ?_)
        · obtain ⟨l1, l2⟩ := scL_no (K := K) (G := G) (i := i) hL q
          refine b470 x y τ ex ey hle ?_
          rw [l1]
          exact Lgs_nil
        · have hlo : m_logOf (Int32.ofNat s) (Int32.ofNat (n0 + i + 1)) = some (Int32.ofNat (rPl s (n0 + i + 1))) := by
            rw [m_logOf_n, ← rPl_e (by omega)]
            rfl
          refine WP_eq hlo ?_
          have hm512 := Nat.mod_lt (n0 + i + 1) (show 0 < 512 by decide)
          have hp : rPl s (n0 + i + 1) < 3584 := by unfold rPl; omega
          refine WP_st rfl 3584 (by decide +kernel) hp ?_
          have c1 : (setI τ 59 (rPl s (n0 + i + 1)) (G.2.1.getD i aE0).1).2 36 = σ.2 36 := f36
          rw [show Int32.ofNat (ofs K G.2.1 i) + 12 = Int32.ofNat (ofs K G.2.1 i + 12) from i_ad (s := 12), show Int32.ofNat (ofs K G.2.1 i) + 16 = Int32.ofNat (ofs K G.2.1 i + 16) from i_ad (s := 16)]
          refine WP_eq ((seg_nums hG c1 hi).2 (by omega)).2.1 ?_
          refine WP_st rfl 3584 (by decide +kernel) hp ?_
          refine WP_eq ((seg_nums (τ := setI (setI τ 59 (rPl s (n0 + i + 1)) (G.2.1.getD i aE0).1) 60 (rPl s (n0 + i + 1)) (G.2.1.getD i aE0).2.1) hG f36 hi).2 (by omega)).2.2 ?_
          refine WP_st rfl 3584 (by decide +kernel) hp ?_
          refine WP_st rfl 3584 (by decide +kernel) hp ?_
          have hg4 : SLg (rPl s (n0 + i + 1)) τ (setI (setI (setI (setI τ 59 (rPl s (n0 + i + 1)) (G.2.1.getD i aE0).1) 60 (rPl s (n0 + i + 1)) (G.2.1.getD i aE0).2.1) 61 (rPl s (n0 + i + 1)) (G.2.1.getD i aE0).2.2.1) 62 (rPl s (n0 + i + 1)) (Int32.ofNat (ofs K G.2.1 i))) := SLg_I (SLg_I (SLg_I (SLg_I SLg_refl ⟨by omega, by omega, rfl⟩) ⟨by omega, by omega, rfl⟩) ⟨by omega, by omega, rfl⟩) ⟨by omega, by omega, rfl⟩
          have v59 : (setI (setI (setI (setI τ 59 (rPl s (n0 + i + 1)) (G.2.1.getD i aE0).1) 60 (rPl s (n0 + i + 1)) (G.2.1.getD i aE0).2.1) 61 (rPl s (n0 + i + 1)) (G.2.1.getD i aE0).2.2.1) 62 (rPl s (n0 + i + 1)) (Int32.ofNat (ofs K G.2.1 i))).1 59 (rPl s (n0 + i + 1)) = (G.2.1.getD i aE0).1 := by
            rw [setI_f (by decide), setI_f (by decide), setI_f (by decide), setI_e]
          have v60 : (setI (setI (setI (setI τ 59 (rPl s (n0 + i + 1)) (G.2.1.getD i aE0).1) 60 (rPl s (n0 + i + 1)) (G.2.1.getD i aE0).2.1) 61 (rPl s (n0 + i + 1)) (G.2.1.getD i aE0).2.2.1) 62 (rPl s (n0 + i + 1)) (Int32.ofNat (ofs K G.2.1 i))).1 60 (rPl s (n0 + i + 1)) = (G.2.1.getD i aE0).2.1 := by
            rw [setI_f (by decide), setI_f (by decide), setI_e]
          have v61 : (setI (setI (setI (setI τ 59 (rPl s (n0 + i + 1)) (G.2.1.getD i aE0).1) 60 (rPl s (n0 + i + 1)) (G.2.1.getD i aE0).2.1) 61 (rPl s (n0 + i + 1)) (G.2.1.getD i aE0).2.2.1) 62 (rPl s (n0 + i + 1)) (Int32.ofNat (ofs K G.2.1 i))).1 61 (rPl s (n0 + i + 1)) = (G.2.1.getD i aE0).2.2.1 := by
            rw [setI_f (by decide), setI_e]
          have v62 : (setI (setI (setI (setI τ 59 (rPl s (n0 + i + 1)) (G.2.1.getD i aE0).1) 60 (rPl s (n0 + i + 1)) (G.2.1.getD i aE0).2.1) 61 (rPl s (n0 + i + 1)) (G.2.1.getD i aE0).2.2.1) 62 (rPl s (n0 + i + 1)) (Int32.ofNat (ofs K G.2.1 i))).1 62 (rPl s (n0 + i + 1)) = Int32.ofNat (ofs K G.2.1 i) := setI_e
          have v36 : (setI (setI (setI (setI τ 59 (rPl s (n0 + i + 1)) (G.2.1.getD i aE0).1) 60 (rPl s (n0 + i + 1)) (G.2.1.getD i aE0).2.1) 61 (rPl s (n0 + i + 1)) (G.2.1.getD i aE0).2.2.1) 62 (rPl s (n0 + i + 1)) (Int32.ofNat (ofs K G.2.1 i))).2 36 = σ.2 36 := f36
          generalize setI (setI (setI (setI τ 59 (rPl s (n0 + i + 1)) (G.2.1.getD i aE0).1) 60 (rPl s (n0 + i + 1)) (G.2.1.getD i aE0).2.1) 61 (rPl s (n0 + i + 1)) (G.2.1.getD i aE0).2.2.1) 62 (rPl s (n0 + i + 1)) (Int32.ofNat (ofs K G.2.1 i)) = τ1 at hg4 v59 v60 v61 v62 v36
          refine rec_copy hF hs hG hi hoS v36 v59 v60 v61 v62 (fun τ2 g2 ge => ?_)
          have gall := SLg_t hg4 g2
          have ll := scL_len (K := K) (G := G) (i := i) hL
          refine b470 x y τ2 ex ey (SLe_t hle (SLe_g gall)) ?_
          rw [scL_go (by omega)]
          refine Lgs_app (Lgs_o gall (by omega) (by omega) hlg) ?_
          rw [ll, show b + 1 + (n0 + i - b) = n0 + i + 1 by omega]
          exact ge
      refine WP_if (p := n0 + i + 1 ≠ b) (by rw [c2_ne, i_eqi (by omega) (by omega)]) (fun q => ?_) (fun q => ?_)
      · refine b346 _ _ ?_ ?_
        · unfold scM
          by_cases z : n0 < b ∧ b ≤ n0 + i
          · rw [if_pos z, if_pos (by omega)]
          · rw [if_neg z, if_neg (by omega)]
        · unfold scZ
          congr 1
          exact decide_eq_decide.mpr (by omega)
      · have q : n0 + i + 1 = b := Classical.not_not.mp q
        refine WP_ld rfl 7 (by decide +kernel) hs ?_
        rw [f57]
        unfold m_recoverLog_b344
        have ez : scZ b n0 z0 (i + 1) = true := by
          unfold scZ
          rw [decide_eq_true (by omega), Bool.or_true]
        have em : scM G T b n0 m0 (i + 1) = decide ((G.2.1.getD i aE0).1 = T) := by
          unfold scM
          rw [if_pos (by omega), show b - n0 - 1 = i by omega]
        refine WP_if c2_ne (fun y => ?_) (fun y => ?_)
        · exact b346 false true (em.trans (decide_eq_false y)) ez
        · exact b346 true true (em.trans (decide_eq_true (Classical.not_not.mp y))) ez
    · -- no whole frame follows
      have ei : i = (aWhole G).length := by omega
      subst ei
      have stop := fin τ hle hlg
      rw [show Int32.ofNat (ofs K G.2.1 (aWhole G).length) + 8 = Int32.ofNat (ofs K G.2.1 (aWhole G).length + 8) from i_ad (s := 8)]
      refine WP_if (p := S < ofs K G.2.1 (aWhole G).length + 8) (by rw [c2_gt, Int32.lt_iff_toInt_lt, Int32.toInt_ofNat_of_lt (by omega), Int32.toInt_ofNat_of_lt (by omega)]; omega) (fun _ => stop) (fun q => ?_)
      have hi : (aWhole G).length < G.2.1.length := by
        by_cases z : (aWhole G).length < G.2.1.length
        · exact z
        · exfalso
          have e : (aWhole G).length = G.2.1.length := by omega
          rw [ofs_len] at h6
          rw [e] at q
          omega
      have hS1 := w3 hi
      have hmem : G.2.1.getD (aWhole G).length aE0 ∈ G.2.1 := by
        rw [List.getD_eq_getElem?_getD, List.getElem?_eq_getElem hi]
        exact List.getElem_mem _
      obtain ⟨we, wl⟩ := h8 _ hmem
      have hos := ofs_s (K := K) hi
      refine WP_eq ((seg_nums (τ := τ) hG f36 hi).1 (by omega)) ?_
      refine WP_ld rfl 224 (by decide +kernel) hk ?_
      rw [f37]
      have ew2 : Int32.ofNat (ofs K G.2.1 (aWhole G).length + 8) + ((17 : Int32) + (G.2.1.getD (aWhole G).length aE0).2.2.1) = Int32.ofNat (ofs K G.2.1 ((aWhole G).length + 1)) := by
        rw [we.1, show (17 : Int32) = Int32.ofNat 17 from rfl, i_ad, i_ad, hos]
        congr 1
        omega
      rw [ew2]
      refine WP_if (p := True) (by rw [c2_gt, Int32.lt_iff_toInt_lt, Int32.toInt_ofNat_of_lt (by omega), Int32.toInt_ofNat_of_lt (by omega)]; exact ⟨fun _ => trivial, fun _ => by omega⟩) (fun _ => stop) (fun y => absurd trivial y)
