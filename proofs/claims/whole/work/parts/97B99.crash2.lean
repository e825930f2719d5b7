/-- what is known of a disk that crashes -/
def crOK (a : AA) (s : Nat) : Prop := ∀ f, f < 16 → aS a 43 (16 * s + f) ≤ (aFk a s f).1 1 ∧ (f = 2 ∨ f = 3 → aS a 43 (16 * s + f) = (aFc a s f).1 1)
theorem aCrashFile_e {a : AA} {s f : Nat} {r : Int64} : aCrashFile a s f r = aSyncFile (if r.toUInt64 >>> 61 = 0 then aPut a s f (aFk a s f)
    else aPut a s f (aU (aFc a s f).1 1 (aMin ((aFc a s f).1 1) (aS a 43 (16 * s + f) + crK r ((aFc a s f).1 1 - aS a 43 (16 * s + f)))), (aFc a s f).2)) s f := rfl
theorem AFr_crashFile {a : AA} {s f : Nat} {r : Int64} : AFr [43] [6, 7] a (aCrashFile a s f r) := by
  rw [aCrashFile_e]
  have h1 : ∀ b : AA, AFr [43] [7] b (aSyncFile b s f) := fun b => AFr_w (AFr_t AFr_fk AFr_I) (by decide) (by decide)
  exact AFr_w (AFr_t (AFr_if AFr_put AFr_put) (h1 _)) (by decide) (by decide)
theorem crF_o {a : AA} {s f g : Nat} {r : Int64} (hg : g ≠ f) : aFc (aCrashFile a s f r) s g = aFc a s g ∧ aFk (aCrashFile a s f r) s g = aFk a s g ∧ aS (aCrashFile a s f r) 43 (16 * s + g) = aS a 43 (16 * s + g) := by
  rw [aCrashFile_e]
  have key : ∀ b : AA, aFc b s g = aFc a s g → aFk b s g = aFk a s g → aS b 43 (16 * s + g) = aS a 43 (16 * s + g) → aFc (aSyncFile b s f) s g = aFc a s g ∧ aFk (aSyncFile b s f) s g = aFk a s g ∧ aS (aSyncFile b s f) 43 (16 * s + g) = aS a 43 (16 * s + g) := by
    intro b h1 h2 h3
    refine ⟨h1, ?_, ?_⟩
    · rw [aFk_syn, if_neg (fun z => hg z.2)]
      exact h2
    · show (if 43 = 43 ∧ 16 * s + g = 16 * s + f then _ else aS b 43 (16 * s + g)) = _
      rw [if_neg (fun z => hg (by omega))]
      exact h3
  split
  · refine key _ ?_ rfl rfl
    rw [aFc_put, if_neg (fun z => hg z.2)]
  · refine key _ ?_ rfl rfl
    rw [aFc_put, if_neg (fun z => hg z.2)]
theorem crFs {a : AA} {s : Nat} {r : Int64} : ∀ n, AFr [43] [6, 7] a (aCrashFiles a s r n).1 ∧ ∀ g, n ≤ g → aFc (aCrashFiles a s r n).1 s g = aFc a s g ∧ aFk (aCrashFiles a s r n).1 s g = aFk a s g ∧ aS (aCrashFiles a s r n).1 43 (16 * s + g) = aS a 43 (16 * s + g) := by
  intro n
  induction n with
  | zero => exact ⟨AFr_w AFr_r (by decide) (by decide), fun g _ => ⟨rfl, rfl, rfl⟩⟩
  | succ n ih =>
    have e : (aCrashFiles a s r (n + 1)).1 = aCrashFile (aCrashFiles a s r n).1 s n (aLcg (aCrashFiles a s r n).2) := rfl
    rw [e]
    refine ⟨AFr_w (AFr_t ih.1 AFr_crashFile) (by decide) (by decide), fun g hg => ?_⟩
    obtain ⟨x1, x2, x3⟩ := ih.2 g (by omega)
    obtain ⟨y1, y2, y3⟩ := crF_o (a := (aCrashFiles a s r n).1) (s := s) (f := n) (g := g) (r := aLcg (aCrashFiles a s r n).2) (by omega)
    exact ⟨y1.trans x1, y2.trans x2, y3.trans x3⟩
theorem add1k {x k : Int32} : x + (1 + k) - 1 = x + k := by
  rw [Int32.add_comm 1 k, ← Int32.add_assoc]
  exact Int32.add_sub_cancel _ _
/-- one file -/
theorem M_crash1 {F : Nat} {τ : RS} {b : AA} {u : AU} {s f : Nat} {r : Int64} {K : RS → Int32 → Int64 → Int32 → Option RS} {Q : RS → Prop} (hF : 2000 ≤ F) (h : RM τ b u) (hs : s < 7) (hf : f < 16) (hup : ¬ aS b 52 s = 1) (hlow : aS b 43 (16 * s + f) ≤ (aFk b s f).1 1) (hsh : f = 2 ∨ f = 3 → aS b 43 (16 * s + f) = (aFc b s f).1 1)
    (go : ∀ τ2, RM τ2 (aCrashFile b s f r) u → WP (K τ2 (Int32.ofNat s) r (Int32.ofNat (f + 1))) Q) :
    WP ((m_fileOf (Int32.ofNat s) (Int32.ofNat f)).bind fun p20 =>
      if xc0 .ne (lg_cmp ((r.toUInt64 >>> (((61 : Int32)).toInt64.toUInt64 &&& Int64.toUInt64 63)).toInt64) ((0 : Int64))) = true then (
        (rld τ 37 p20).bind fun x30 =>
        if ((2 : Int32)) = 0 then none else
        (rld τ 43 (p20 / ((2 : Int32)))).bind fun x33 =>
        if (((((2 : Int32)) * (x30 - x33)) + ((1 : Int32))).toInt64) = 0 then none else
        if ((2 : Int32)) = 0 then none else
        (rld τ 43 (p20 / ((2 : Int32)))).bind fun x45 =>
        (rld τ 37 p20).bind fun x55 =>
        if xc2 .le x55 ((x45 + (((1 : Int32)) + ((((r.toUInt64 >>> (((33 : Int32)).toInt64.toUInt64 &&& Int64.toUInt64 63)).toInt64) &&& ((1048575 : Int64))) - (((r.toUInt64 >>> (((33 : Int32)).toInt64.toUInt64 &&& Int64.toUInt64 63)).toInt64) &&& ((1048575 : Int64))) / (((((2 : Int32)) * (x30 - x33)) + ((1 : Int32))).toInt64) * (((((2 : Int32)) * (x30 - x33)) + ((1 : Int32))).toInt64)).toInt32)) - ((1 : Int32))) = true then (
          m_crashFiles_b152 F K τ (Int32.ofNat s) r (Int32.ofNat f)
        ) else (
          (rst τ 37 p20 (((x45 + (((1 : Int32)) + ((((r.toUInt64 >>> (((33 : Int32)).toInt64.toUInt64 &&& Int64.toUInt64 63)).toInt64) &&& ((1048575 : Int64))) - (((r.toUInt64 >>> (((33 : Int32)).toInt64.toUInt64 &&& Int64.toUInt64 63)).toInt64) &&& ((1048575 : Int64))) / (((((2 : Int32)) * (x30 - x33)) + ((1 : Int32))).toInt64) * (((((2 : Int32)) * (x30 - x33)) + ((1 : Int32))).toInt64)).toInt32)) - ((1 : Int32))))).bind fun σ58 =>
          if ((2 : Int32)) = 0 then none else
          (rst σ58 44 (p20 / ((2 : Int32))) ((((1 : Int32)) &&& 1))).bind fun σ61 =>
          m_crashFiles_b152 F K σ61 (Int32.ofNat s) r (Int32.ofNat f)
        )
      ) else (
        if ((2 : Int32)) = 0 then none else
        (rld τ 44 (p20 / ((2 : Int32)))).bind fun x64 =>
        if xc0 .eq x64 = true then (
          m_crashFiles_b152 F K τ (Int32.ofNat s) r (Int32.ofNat f)
        ) else (
          (m_copyFile F τ (p20 + ((1 : Int32))) p20).bind fun p67 =>
          m_crashFiles_b152 F K p67 (Int32.ofNat s) r (Int32.ofNat f)
        )
      )) Q := by
  have fin : ∀ τ2 c, RM τ2 c u → aSyncFile c s f = aCrashFile b s f r → WP (m_crashFiles_b152 F K τ2 (Int32.ofNat s) r (Int32.ofNat f)) Q := by
    intro τ2 c hc ec
    unfold m_crashFiles_b152
    refine WP_call (M_syncFile hF hc hs hf) (fun p1 h1 => ?_)
    rw [ec] at h1
    rw [i_s]
    exact go p1 h1
  obtain ⟨z1, z2, z3, z4⟩ := h.2.2.2.2.2.1 s hs f hf
  obtain ⟨hS, e37⟩ := RFl_S z1
  obtain ⟨hS2, e37k⟩ := RFl_S z2
  have hj : rFx s f = 16 * s + f := rfl
  rw [m_fileOf_n, Option.bind_some]
  have e43 : τ.1 43 (16 * s + f) = aS b 43 (16 * s + f) := RM_43 h (by omega)
  have lc := h.2.2.2.2.2.2.2.2.2.2.2.2.2.2.2.2.2.2.2.1.2.2.1 s hs f hf
  rw [show (((61 : Int32)).toInt64.toUInt64 &&& Int64.toUInt64 63) = 61 by decide, show (((33 : Int32)).toInt64.toUInt64 &&& Int64.toUInt64 63) = 33 by decide]
  refine WP_if lgc_0 (fun q => ?_) (fun q => ?_)
  · -- cut
    refine WP_ld rfl 224 (by decide +kernel) (by omega) ?_
    rw [if_neg (show ¬ (2 : Int32) = 0 by decide), i_half (by omega)]
    refine WP_ld rfl 112 (by decide +kernel) (by omega) ?_
    have c37 : τ.1 37 (2 * (16 * s + f)) = (aFc b s f).1 1 := z1.2.2.1
    have c37n : (aFc b s f).1 1 = Int32.ofNat (τ.1 37 (2 * rFx s f)).toNatClampNeg := by rw [← z1.2.2.1]; exact e37
    generalize hSz : (τ.1 37 (2 * rFx s f)).toNatClampNeg = S at hS c37n
    obtain ⟨lo, el, hlo⟩ : ∃ lo : Nat, aS b 43 (16 * s + f) = Int32.ofNat lo ∧ lo ≤ S := by
      refine ⟨_, i_of lc.1, ?_⟩
      have l2 := lc.2
      rw [c37n, i_of lc.1, i_ltn (by
        have h1 := i_nat lc.1
        have h2 := Int32.toInt_lt (aS b 43 (16 * s + f))
        omega) (by omega)] at l2
      exact l2
    rw [e43, c37, c37n, el, i_subn hlo]
    obtain ⟨k, ek, hk⟩ := crK_b (r := r) (d := S - lo) (by omega)
    have es : (2 * Int32.ofNat (S - lo) + 1).toInt64 = Int64.ofNat (2 * (S - lo) + 1) := by
      rw [show (2 : Int32) * Int32.ofNat (S - lo) = Int32.ofNat (2 * (S - lo)) from i_mc (c := 2), i_s]
      apply Int64.toInt_inj.mp
      rw [Int32.toInt_toInt64, Int32.toInt_ofNat_of_lt (by omega), Int64.toInt_ofNat_of_lt (by omega)]
    have n0 : ¬ (2 * Int32.ofNat (S - lo) + 1).toInt64 = 0 := by
      rw [es]
      intro z
      have := congrArg Int64.toInt z
      rw [Int64.toInt_ofNat_of_lt (by omega), show (0 : Int64).toInt = 0 by decide] at this
      omega
    rw [if_neg n0, if_neg (show ¬ (2 : Int32) = 0 by decide)]
    refine WP_ld rfl 112 (by decide +kernel) (by omega) ?_
    refine WP_ld rfl 224 (by decide +kernel) (by omega) ?_
    rw [e43, c37, c37n, el, add1k]
    have ekk : ((((r.toUInt64 >>> 33).toInt64) &&& ((1048575 : Int64))) - (((r.toUInt64 >>> 33).toInt64) &&& ((1048575 : Int64))) / ((2 * Int32.ofNat (S - lo) + 1).toInt64) * ((2 * Int32.ofNat (S - lo) + 1).toInt64)).toInt32 = Int32.ofNat k := ek
    rw [ekk, i_ad]
    have eC : aCrashFile b s f r = aSyncFile (aPut b s f (aU (aFc b s f).1 1 (aMin (Int32.ofNat S) (Int32.ofNat (lo + k))), (aFc b s f).2)) s f := by
      rw [aCrashFile_e, if_neg q, c37n, el, i_subn hlo, ek, i_ad]
    refine WP_if (i_lei (by omega) (by omega)) (fun y => ?_) (fun y => ?_)
    · refine fin τ b h ?_
      rw [eC]
      have em : aMin (Int32.ofNat S) (Int32.ofNat (lo + k)) = (aFc b s f).1 1 := by
        unfold aMin
        rw [if_pos ((i_ltn (by omega) (by omega)).mpr y), c37n]
      rw [em]
      have eF : (aU (aFc b s f).1 1 ((aFc b s f).1 1), (aFc b s f).2) = aFc b s f := by
        refine Prod.ext ?_ rfl
        funext x
        show (if x = 1 then (aFc b s f).1 1 else (aFc b s f).1 x) = _
        by_cases w : x = 1
        · rw [if_pos w, w]
        · rw [if_neg w]
      rw [eF, aPut_same]
    · refine WP_st rfl 224 (by decide +kernel) (by omega) ?_
      rw [if_neg (show ¬ (2 : Int32) = 0 by decide)]
      refine WP_st rfl 112 (by decide +kernel) (by omega) ?_
      rw [show (1 : Int32) &&& 1 = 1 from rfl]
      have hf23 : f < 2 ∨ 4 ≤ f := by
        by_cases w : f = 2 ∨ f = 3
        · exfalso
          have := hsh w
          rw [el, c37n, i_eqi (by omega) (by omega)] at this
          omega
        · omega
      have hSL : SLd (2 * rFx s f) τ (setI (setI τ 37 (2 * (16 * s + f)) (Int32.ofNat (lo + k))) 44 (16 * s + f) 1) := SLd_I (SLd_I SLd_refl (by unfold FOf rFx; omega)) (by unfold FOf rFx; omega)
      have hR := RFl_cut (σ' := setI (setI τ 37 (2 * (16 * s + f)) (Int32.ofNat (lo + k))) 44 (16 * s + f) 1) (q := lo + k) z1 hf23 (fun g hg => ?_) rfl (by rw [hSz]; omega) (by rw [setI_f (by decide)]; exact setI_e)
      · have hput := RM_put (σ' := setI (setI τ 37 (2 * (16 * s + f)) (Int32.ofNat (lo + k))) 44 (16 * s + f) 1) (v := aS b 43 (16 * s + f)) h hs hf hSL setI_e hR (fun w => ⟨rfl, rfl, by rw [setI_f (by decide), setI_f (by decide)]⟩) (fun w => absurd w hup) (fun w => absurd w hup) (by rw [setI_f (by decide), setI_f (by decide)]; exact e43) ⟨lc.1, by
          show aS b 43 (16 * s + f) ≤ Int32.ofNat (lo + k)
          rw [el, i_ltn (by omega) (by omega)]
          omega⟩ (fun _ w => absurd w hup)
        refine fin _ _ hput ?_
        rw [eC]
        have em : aMin (Int32.ofNat S) (Int32.ofNat (lo + k)) = Int32.ofNat (lo + k) := by
          unfold aMin
          rw [if_neg (fun w => y ((i_ltn (by omega) (by omega)).mp w))]
        rw [em, aI_same (a := aPut b s f (aU (aFc b s f).1 1 (Int32.ofNat (lo + k)), (aFc b s f).2)) (i := rFx s f) (v := aS b 43 (16 * s + f)) rfl]
      · simp at hg
        rw [setI_f (by omega), setI_f (by omega)]
  · -- what was kept
    have q := Classical.not_not.mp q
    have eC : aCrashFile b s f r = aSyncFile (aPut b s f (aFk b s f)) s f := by
      rw [aCrashFile_e, if_pos q]
    rw [if_neg (show ¬ (2 : Int32) = 0 by decide), i_half (by omega)]
    refine WP_ld rfl 112 (by decide +kernel) (by omega) ?_
    refine WP_if c0_eq (fun y => ?_) (fun y => ?_)
    · have w4 := z4 y
      have e37' : τ.1 37 (2 * rFx s f + 1) = τ.1 37 (2 * rFx s f) := w4.1 37 (by simp)
      refine fin τ _ (RM_rest h hs hf hup SLd_refl z3 (fun g hg => (w4.1 g hg).symm) (fun i hi => ?_) e43 hlow) eC.symm
      rw [e37'] at hi
      exact (w4.2 i hi).symm
    · rw [i_s]
      refine WP_eq (m_copyFile_n (S := (τ.1 37 (2 * rFx s f + 1)).toNatClampNeg) (by omega) (by omega) (by omega) (by omega) hS2 e37k) ?_
      have hSL : SLd (2 * rFx s f) τ (setW (rcpF τ (2 * (16 * s + f) + 1) (2 * (16 * s + f))) 36 (rcpL (τ.2 36) (1750 * (2 * (16 * s + f) + 1)) (1750 * (2 * (16 * s + f))) (((τ.1 37 (2 * rFx s f + 1)).toNatClampNeg + 7) / 8))) := by
        refine ⟨fun g i hg => ?_, fun g i hg => ?_⟩
        · show (rcpF τ (2 * (16 * s + f) + 1) (2 * (16 * s + f))).1 g i = _
          have : SLd (2 * rFx s f) τ (rcpF τ (2 * (16 * s + f) + 1) (2 * (16 * s + f))) := by
            unfold rcpF
            refine SLd_I (SLd_I (SLd_I (SLd_I (SLd_I (SLd_I SLd_refl ?_) ?_) ?_) ?_) ?_) ?_ <;> (unfold FOf rFx; omega)
          exact this.1 g i hg
        · show (if g = 36 then rcpL (τ.2 36) (1750 * (2 * (16 * s + f) + 1)) (1750 * (2 * (16 * s + f))) (((τ.1 37 (2 * rFx s f + 1)).toNatClampNeg + 7) / 8) i else τ.2 g i) = _
          by_cases q2 : g = 36
          · rw [if_pos q2, q2]
            unfold rcpL
            rw [if_neg (fun z => hg ⟨q2, by unfold rFx; omega⟩)]
          · rw [if_neg q2]
      have h38 := z2.2.1
      have k38 : τ.1 38 (2 * (16 * s + f) + 1) = (aFk b s f).1 0 := z2.1
      refine fin _ _ (RM_rest h hs hf hup hSL ?_ (fun g hg => ?_) (fun i hi => ?_) ?_ hlow) eC.symm
      · show (rcpF τ (2 * (16 * s + f) + 1) (2 * (16 * s + f))).1 44 (rFx s f) = 0 ∨ _ = 1
        unfold rcpF
        rw [setI_f (by decide), setI_f (by decide), setI_f (by decide), setI_f (by decide), setI_f (by decide), setI_f (by decide)]
        exact z3
      · show (rcpF τ (2 * (16 * s + f) + 1) (2 * (16 * s + f))).1 g (2 * (16 * s + f)) = τ.1 g (2 * (16 * s + f) + 1)
        have e38 : τ.1 38 (2 * (16 * s + f) + 1) &&& 1 = τ.1 38 (2 * (16 * s + f) + 1) := by
          rw [k38]
          rcases h38 with z | z <;> (rw [z]; decide)
        unfold rcpF
        simp at hg
        rcases hg with rfl | rfl | rfl | rfl | rfl | rfl <;> simp [setI, e38]
      · rw [setW_e]
        unfold rB rcpL
        unfold rFx at hi hS2 ⊢
        rw [if_pos (by omega), show 1750 * (2 * (16 * s + f) + 1) + ((14000 * (2 * (16 * s + f)) + i) / 8 - 1750 * (2 * (16 * s + f))) = (14000 * (2 * (16 * s + f) + 1) + i) / 8 by omega, show (14000 * (2 * (16 * s + f)) + i) % 8 = (14000 * (2 * (16 * s + f) + 1) + i) % 8 by omega]
      · show (rcpF τ (2 * (16 * s + f) + 1) (2 * (16 * s + f))).1 43 (rFx s f) = _
        unfold rcpF
        rw [setI_f (by decide), setI_f (by decide), setI_f (by decide), setI_f (by decide), setI_f (by decide), setI_f (by decide)]
        exact e43
theorem F_crash {F : Nat} {σ : RS} {a : AA} {u : AU} {s : Int32} {r : Int64} (hF : 2000 ≤ F) (h : RM σ a u) (hk : ∀ s, s < 7 → crOK a s) : FW (m_crash F σ s r) (A_crash (aI a 0 0 0) s r) u := by
  unfold A_crash m_crash m_crash_b0 m_crash_b18
  dsimp only
  by_cases q1 : aInR s 0 6 = true
  · rw [q1, Bool.not_true, if_neg (show ¬ false = true by decide)]
    refine WP_in (lo' := 0) (hi' := 6) (by decide) (by decide) (fun _ => ?_) (fun y => by rw [q1] at y; exact absurd y (by decide))
    refine WP_if c0_eq (fun y => absurd (show (1 : Int32) = 0 from y) (by decide)) (fun _ => ?_)
    refine WP_th h (fun τ hτ e0 => ?_)
    rw [e0]
    refine WP_if c0_gt (fun y => absurd y (by decide)) (fun _ => ?_)
    obtain ⟨p, e1, hp6⟩ := in_nat2 (hi := 6) (by omega) q1
    have hp7 : p < 7 := by omega
    rw [e1, i_cl (by omega)]
    have z0 : aS (aI a 0 0 0) 0 0 = 0 := rfl
    have hkb : crOK (aI a 0 0 0) p := hk p hp7
    generalize aI a 0 0 0 = b at hτ z0 hkb
    refine WP_r7 hτ (by decide) hp7 ?_
    refine WP_if c0_ne (fun q => ?_) (fun q => ?_)
    · rw [if_neg q]
      have fd := @AFr_down b p
      have ff := (@crFs (aDown b p) p r 16).1
      have fe : AFr [52, 29, 31, 43, 46, 71] [1, 9, 6, 7] b (aI (aI (aCrashFiles (aDown b p) p r 16).1 46 p 0) 71 p 0) := AFr_w (AFr_t (AFr_t (AFr_t fd ff) AFr_I) AFr_I) (by decide) (by decide)
      refine FW_ok (by rw [fe.1 0 (by decide)]; exact z0) ?_
      refine WP_call (M_down (by omega) hτ hp7) (fun p8 h8 => ?_)
      have up0 : aS (aDown b p) 52 p = 0 := by
        unfold aDown
        show (if 52 = 31 ∧ p = p then (-1 : Int32) else if 52 = 29 ∧ p = p then (-1 : Int32) else if 52 = 52 ∧ p = p then 0 else _) = 0
        rw [if_neg (by omega), if_neg (by omega), if_pos ⟨rfl, rfl⟩]
      have hkc : crOK (aDown b p) p := by
        intro f hf
        rw [fd.1 43 (by decide), fd.2.2.2.2.2.2.2.2.1 (by decide), fd.2.2.2.2.2.2.2.1 (by decide)]
        exact hkb f hf
      generalize aDown b p = c at h8 up0 hkc
      unfold m_crashFiles m_crashFiles_b0
      have loop : ∀ n k (τ2 : RS), 17 ≤ k + n → k ≤ 16 → RM τ2 (aCrashFiles c p r k).1 u → WP (m_crashFiles_b6 F n τ2 (Int32.ofNat p) (aCrashFiles c p r k).2 (Int32.ofNat k)) (fun τ => RM τ (aI (aI (aCrashFiles c p r 16).1 46 p 0) 71 p 0) u) := by
        intro n
        induction n with
        | zero => intro k τ2 h1 h2; omega
        | succ n ih =>
          intro k τ2 h1 h2 h3
          unfold m_crashFiles_b6
          refine WP_if (p := 16 ≤ k) (i_gei (q := 16) (by omega) (by omega)) (fun y => ?_) (fun y => ?_)
          · have : k = 16 := by omega
            subst this
            refine WP_st rfl 7 (by decide +kernel) hp7 ?_
            refine WP_st rfl 7 (by decide +kernel) hp7 ?_
            rw [show (0 : Int32) &&& 1 = 0 from rfl]
            exact WP_some (RM_I (RM_46 h3) (by decide))
          · obtain ⟨fk1, fk2⟩ := @crFs c p r k
            obtain ⟨g1, g2, g3⟩ := fk2 k (Nat.le_refl _)
            obtain ⟨o1, o2⟩ := hkc k (by omega)
            refine M_crash1 (b := (aCrashFiles c p r k).1) (r := aLcg (aCrashFiles c p r k).2) (K := m_crashFiles_b6 F n) hF h3 hp7 (by omega) (by rw [fk1.1 52 (by decide), up0]; decide) (by rw [g3, g2]; exact o1) (fun w => by rw [g3, g1]; exact o2 w) (fun τ3 h4 => ?_)
            exact ih (k + 1) τ3 (by omega) (by omega) h4
      refine WP_call (loop F 0 p8 (by omega) (Nat.zero_le _) h8) (fun p10 h10 => ?_)
      rw [if_pos (Or.inr rfl)]
      exact WP_some ⟨h10, rfl⟩
    · rw [if_pos (Classical.not_not.mp q)]
      unfold m_crash_b37
      refine FW_ok z0 ?_
      rw [if_pos (Or.inl rfl)]
      exact WP_some ⟨hτ, rfl⟩
  · have q1 := b_false q1
    rw [q1, Bool.not_false, if_pos (show true = true from rfl)]
    refine FW_no (by decide) (WP_in (lo' := 0) (hi' := 6) (by decide) (by decide) (fun y => by rw [q1] at y; exact absurd y (by decide)) (fun _ => ?_))
    refine WP_if c0_eq (fun _ => ?_) (fun y => absurd rfl y)
    refine WP_th h (fun τ hτ e0 => ?_)
    rw [e0]
    refine WP_if c0_gt (fun _ => ?_) (fun y => absurd (by decide) y)
    unfold m_crash_b37
    rw [if_pos (Or.inl rfl)]
    exact WP_some hτ
