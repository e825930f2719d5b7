/-! the code of members -/
theorem aMemAt_s : ∀ (g : List AE) (e : AE), aMemAt (g ++ [e]) = if e.2.1 = 1 then g.length + 1 else aMemAt g := by
  intro g
  induction g with
  | nil =>
    intro e
    by_cases q : e.2.1 = 1
    · simp [aMemAt, q]
    · simp [aMemAt, q]
  | cons x r ih =>
    intro e
    show (if 0 < aMemAt (r ++ [e]) then aMemAt (r ++ [e]) + 1 else if x.2.1 = 1 then 1 else 0) = _
    rw [ih e]
    by_cases q : e.2.1 = 1
    · rw [if_pos q, if_pos q, if_pos (by omega), List.length_cons]
    · rw [if_neg q, if_neg q]
      rfl
theorem aMemC_s : ∀ (g : List AE) (e : AE) (c : Int32), aMemC c (g ++ [e]) = if e.2.1 = 1 then e.2.2.2.1 else aMemC c g := by
  intro g
  induction g with
  | nil => intro e c; rfl
  | cons x r ih =>
    intro e c
    exact ih e _
theorem aMemAt_le : ∀ g : List AE, aMemAt g ≤ g.length := by
  intro g
  induction g with
  | nil => exact Nat.le_refl _
  | cons x r ih =>
    show (if 0 < aMemAt r then aMemAt r + 1 else if x.2.1 = 1 then 1 else 0) ≤ r.length + 1
    split
    · omega
    · split <;> omega
theorem rLp_lt {s : Nat} {n : Int32} (hs : s < 7) : rLp s n < 3584 := by
  unfold rLp
  have := @rMod_lt n
  omega
/-- the entry of a number, where it lies -/
theorem RM_ent {σ : RS} {a : AA} {u : AU} {s i : Nat} (h : RM σ a u) (hs : s < 7) (hi : i < (aLg a s).length) :
    let e := (aLg a s).getD i aE0
    let p := rLp s (aBase a s + 1 + Int32.ofNat i)
    σ.1 59 p = e.1 ∧ σ.1 60 p = e.2.1 ∧ σ.1 61 p = e.2.2.1 ∧ wfE (aAk a) e ∧ (eCon (aAk a) e).length ≤ 256 ∧ bM (fun q => rB (σ.2 63) (256 * p + q)) (eCon (aAk a) e) 256 := h.2.2.2.2.1 s hs i hi
theorem aI_II {a : AA} {f i : Nat} {v w : Int32} : aI (aI a f i v) f i w = aI a f i w := by
  refine Prod.ext (Prod.ext ?_ rfl) rfl
  funext x y
  show (if x = f ∧ y = i then w else if x = f ∧ y = i then v else a.1.1 x y) = (if x = f ∧ y = i then w else a.1.1 x y)
  by_cases q : x = f ∧ y = i
  · rw [if_pos q, if_pos q]
  · rw [if_neg q, if_neg q, if_neg q]
theorem RM_code {σ : RS} {K : List AK} {s : Nat} {n : Int32} {e : AE} (hs : s < 7) (hk : e.2.1 = 1) (hb : bM (fun q => rB (σ.2 63) (256 * rLp s n + q)) (eCon K e) 256) : m_codeIn σ (Int32.ofNat s) n = some (e.2.2.2.1, σ) := by
  have hp := rLp_lt (n := n) hs
  have hb' : ∀ q v, q < 4 → (a4 e.2.2.2.1)[q]? = some v → rB (σ.2 63) (256 * rLp s n + q) = v := by
    intro q v hq hv
    refine hb q v (by omega) ?_
    unfold eCon
    rw [if_pos hk, List.getElem?_map, hv]
    rfl
  unfold m_codeIn
  rw [m_logOf_n]
  simp only [Option.bind_some]
  rw [show 512 * s + rMod n = rLp s n from rfl, show (256 : Int32) * Int32.ofNat (rLp s n) = Int32.ofNat (256 * rLp s n) from i_mc, show Int32.ofNat (256 * rLp s n) + 1 = Int32.ofNat (256 * rLp s n + 1) from i_s, show Int32.ofNat (256 * rLp s n) + 2 = Int32.ofNat (256 * rLp s n + 2) from i_ad, show Int32.ofNat (256 * rLp s n) + 3 = Int32.ofNat (256 * rLp s n + 3) from i_ad]
  rw [m_inLog_n (by omega)]
  simp only [Option.bind_some]
  rw [m_inLog_n (by omega)]
  simp only [Option.bind_some]
  rw [m_inLog_n (by omega)]
  simp only [Option.bind_some]
  rw [m_inLog_n (by omega)]
  simp only [Option.bind_some]
  have h0 := hb' 0 _ (by omega) rfl
  have h1 := hb' 1 _ (by omega) rfl
  have h2 := hb' 2 _ (by omega) rfl
  have h3 := hb' 3 _ (by omega) rfl
  rw [Nat.add_zero] at h0
  rw [h0, h1, h2, h3]
  show some (_ ||| _, σ) = some (e.2.2.2.1, σ)
  congr 2
  exact i_cat
theorem M_findCode {F : Nat} {σ : RS} {a : AA} {u : AU} {s : Nat} (hF : 400 ≤ F) (h : RM σ a u) (hs : s < 7) : WP (m_findCode F σ (Int32.ofNat s)) (fun σ' => RM σ' (aFindCode a s) u) := by
  have wl := RM_wl h hs
  have key : ∀ n i (τ : RS), (aLg a s).length + 1 ≤ i + n → i ≤ (aLg a s).length → RM τ (aI (aI a 64 s (aBase a s + Int32.ofNat (aMemAt ((aLg a s).take i)))) 65 s (aMemC (aS a 58 s) ((aLg a s).take i))) u → WP (m_findCode_b33 F n τ (Int32.ofNat s) (aBase a s + 1 + Int32.ofNat i)) (fun σ' => RM σ' (aFindCode a s) u) := by
    intro n
    induction n with
    | zero => intro i τ h1 h2; omega
    | succ n ih =>
      intro i τ h1 h2 hτ
      unfold m_findCode_b33
      refine WP_r7 hτ (by decide) hs ?_
      have e56 : aS (aI (aI a 64 s (aBase a s + Int32.ofNat (aMemAt ((aLg a s).take i)))) 65 s (aMemC (aS a 58 s) ((aLg a s).take i))) 56 s = aLast a s := rfl
      rw [e56]
      have en := aB_n wl h2
      refine WP_if (p := (aLg a s).length ≤ i) (c2_gt.trans (by
        obtain ⟨w1, w2, w3, w4⟩ := wl
        rw [Int32.lt_iff_toInt_lt, en]
        omega)) (fun q => ?_) (fun q => ?_)
      · have : i = (aLg a s).length := by omega
        rw [this, List.take_length] at hτ
        exact WP_some hτ
      · have he := RM_ent hτ hs (i := i) (by show i < (aLg a s).length; omega)
        dsimp only at he
        rw [show aLg (aI (aI a 64 s (aBase a s + Int32.ofNat (aMemAt ((aLg a s).take i)))) 65 s (aMemC (aS a 58 s) ((aLg a s).take i))) s = aLg a s from rfl, show aBase (aI (aI a 64 s (aBase a s + Int32.ofNat (aMemAt ((aLg a s).take i)))) 65 s (aMemC (aS a 58 s) ((aLg a s).take i))) s = aBase a s from rfl] at he
        refine WP_eq m_logOf_n ?_
        refine WP_ld rfl 3584 (by decide +kernel) (rLp_lt (n := aBase a s + 1 + Int32.ofNat i) hs) ?_
        rw [show τ.1 60 (512 * s + rMod (aBase a s + 1 + Int32.ofNat i)) = _ from he.2.1]
        have etk : (aLg a s).take (i + 1) = (aLg a s).take i ++ [(aLg a s).getD i aE0] := by
          rw [List.take_add_one, List.getD_eq_getElem?_getD, List.getElem?_eq_getElem (by omega)]
          rfl
        have eti : ((aLg a s).take i).length = i := by
          rw [List.length_take]
          omega
        have eadd : aBase a s + 1 + Int32.ofNat i + 1 = aBase a s + 1 + Int32.ofNat (i + 1) := by
          rw [Int32.add_assoc _ (Int32.ofNat i), i_s]
        have eadd2 : aBase a s + 1 + Int32.ofNat i = aBase a s + Int32.ofNat (i + 1) := by
          rw [Int32.add_assoc, Int32.add_comm 1, i_s]
        refine WP_if c2_eq (fun q2 => ?_) (fun q2 => ?_)
        · refine WP_w7 hτ (by decide) (by decide) hs (fun σ1 g1 => ?_)
          have he1 := RM_ent g1 hs (i := i) (by show i < (aLg a s).length; omega)
          refine WP_eq (RM_code (K := aAk a) hs q2 he1.2.2.2.2.2) ?_
          refine WP_w7 g1 (by decide) (by decide) hs (fun σ2 g2 => ?_)
          unfold m_findCode_b81
          rw [eadd]
          refine ih (i + 1) σ2 (by omega) (by omega) ?_
          rw [etk, aMemAt_s, aMemC_s, if_pos q2, if_pos q2, eti]
          have ee : aI (aI (aI (aI a 64 s (aBase a s + Int32.ofNat (aMemAt ((aLg a s).take i)))) 65 s (aMemC (aS a 58 s) ((aLg a s).take i))) 64 s (aBase a s + 1 + Int32.ofNat i)) 65 s ((aLg a s).getD i aE0).2.2.2.1 = aI (aI a 64 s (aBase a s + Int32.ofNat (i + 1))) 65 s ((aLg a s).getD i aE0).2.2.2.1 := by
            rw [aI_comm (f := 65) (g := 64) (by omega), aI_II, aI_II, eadd2]
          rw [ee] at g2
          exact g2
        · unfold m_findCode_b81
          rw [eadd]
          refine ih (i + 1) τ (by omega) (by omega) ?_
          rw [etk, aMemAt_s, aMemC_s, if_neg q2, if_neg q2]
          exact hτ
  unfold m_findCode m_findCode_b0
  refine WP_r7 h (by decide) hs ?_
  refine WP_w7 h (by decide) (by decide) hs (fun σ1 h1 => ?_)
  refine WP_r7 h1 (by decide) hs ?_
  refine WP_w7 h1 (by decide) (by decide) hs (fun σ2 h2 => ?_)
  refine WP_r7 h2 (by decide) hs ?_
  have := key F 0 σ2 (by have := wl.2.2.1; omega) (Nat.zero_le _) (by
    show RM σ2 (aI (aI a 64 s (aBase a s + Int32.ofNat 0)) 65 s (aS a 58 s)) u
    rw [show aBase a s + Int32.ofNat 0 = aS a 55 s from Int32.add_zero _]
    exact h2)
  rw [show aBase a s + 1 + Int32.ofNat 0 = aS a 55 s + 1 from Int32.add_zero _] at this
  exact this
