/-! letters are made and posted -/
def ltO (σ : RS) (s to : Int32) : RS := setI (setI σ 6 352 s) 7 352 to
theorem aWt_S {a : AA} {s t : Nat} {v : List AL} : aWt (aWtS a s v) t = if t = s then v else aWt a t := rfl
theorem getD_app {α : Type} {l : List α} {x d : α} {i : Nat} : (l ++ [x]).getD i d = if i < l.length then l.getD i d else if i = l.length then x else d := by
  by_cases q : i < l.length
  · rw [if_pos q, List.getD_eq_getElem?_getD, List.getD_eq_getElem?_getD, List.getElem?_append_left q]
  · rw [if_neg q, List.getD_eq_getElem?_getD, List.getElem?_append_right (by omega)]
    by_cases q2 : i = l.length
    · rw [if_pos q2, q2, Nat.sub_self]
      rfl
    · rw [if_neg q2]
      rw [List.getElem?_eq_none (by simp; omega)]
      rfl
theorem M_post {F : Nat} {σ : RS} {a : AA} {u : AU} {s : Nat} {to : Int32} {l : AL} (hF : 400 ≤ F) (h : RM σ a u) (hs : s < 7) (hl : RLt (aAk a) (ltO σ (Int32.ofNat s) to) 352 l) : WP (m_post F σ (Int32.ofNat s) to) (fun σ' => RM σ' (A_post a s l) u) := by
  unfold m_post m_post_b0 A_post
  refine WP_st (n := 352) rfl 354 (by decide +kernel) (by omega) ?_
  refine WP_st (n := 352) rfl 354 (by decide +kernel) (by omega) ?_
  have h1 : RM (ltO σ (Int32.ofNat s) to) a u := RM_out h (SLf_I (SLf_I SLf_refl (by unfold sOf; omega)) (by unfold sOf; omega))
  rw [show setI (setI σ 6 352 (Int32.ofNat s)) 7 352 to = ltO σ (Int32.ofNat s) to from rfl]
  generalize ltO σ (Int32.ofNat s) to = τ at hl h1
  refine WP_r7 h1 (by decide) hs ?_
  refine WP_if c0_ne (fun q => ?_) (fun q => ?_)
  · rw [if_neg q]
    have hw := h1.2.2.1 s hs
    refine WP_ld rfl 7 (by decide +kernel) hs ?_
    rw [hw.1]
    refine WP_if (i_gei (q := 32) (by have := hw.2.1; omega) (by omega)) (fun q2 => ?_) (fun q2 => ?_)
    · rw [if_neg (by omega)]
      exact WP_some h1
    · rw [if_pos (by omega)]
      refine WP_ld rfl 7 (by decide +kernel) hs ?_
      rw [hw.1, show (128 : Int32) + 32 * Int32.ofNat s + Int32.ofNat (aWt a s).length = Int32.ofNat (128 + 32 * s + (aWt a s).length) by
        rw [Int32.ofNat_add, Int32.ofNat_add, Int32.ofNat_mul]
        rfl]
      refine WP_call (M_copyLetter (a := 352) hF (by omega) (by omega) (by omega) hl) (fun p hp => ?_)
      have h2 : RM p a u := RM_sl h1 hp.1 (Or.inl (by omega)) (by omega) (fun t ht i hi => by
        have := (h1.2.2.1 t ht).2.1
        intro z
        have : t = s := by omega
        subst this
        omega)
      have hw2 := h2.2.2.1 s hs
      refine WP_ld rfl 7 (by decide +kernel) hs ?_
      refine WP_st rfl 7 (by decide +kernel) hs ?_
      rw [hw2.1, i_s]
      have hF2 : Fr [85] [] p (setI p 85 s (Int32.ofNat ((aWt a s).length + 1))) := Fr_I
      refine WP_some (show RM _ (aWtS a s (aWt a s ++ [l])) u from ⟨RSc_fr hF2 (by decide) h2.1, RWay_fr hF2 (by decide) h2.2.1, fun t ht => ?_, fun l hl => RLt_fr hF2 (by decide) (h2.2.2.2.1 l hl), fun s hs => RLog_fr hF2 (by decide) (h2.2.2.2.2.1 s hs), fun s hs => RDk_fr hF2 (by decide) (h2.2.2.2.2.2.1 s hs), fun s hs => RSl_fr hF2 (by decide) (h2.2.2.2.2.2.2.1 s hs), fun s hs hu => RCh_fr hF2 (by decide) (h2.2.2.2.2.2.2.2.1 s hs hu), fun s hs hu => RAt_fr hF2 (by decide) (h2.2.2.2.2.2.2.2.2.1 s hs hu), fun s hs => RMc_fr hF2 (by decide) (h2.2.2.2.2.2.2.2.2.2.1 s hs), fun s hs => RSh_fr hF2 (by decide) (h2.2.2.2.2.2.2.2.2.2.2.1 s hs), fun s hs => RPc_fr hF2 (by decide) (h2.2.2.2.2.2.2.2.2.2.2.2.1 s hs), fun s hs => RRq_fr hF2 (by decide) (h2.2.2.2.2.2.2.2.2.2.2.2.2.1 s hs), RAk_fr hF2 (by decide) h2.2.2.2.2.2.2.2.2.2.2.2.2.2.1, fun s hs => RWn_fr hF2 (by decide) (h2.2.2.2.2.2.2.2.2.2.2.2.2.2.2.1 s hs), RTp_fr hF2 (by decide) h2.2.2.2.2.2.2.2.2.2.2.2.2.2.2.2.1, RRe_fr hF2 (by decide) h2.2.2.2.2.2.2.2.2.2.2.2.2.2.2.2.2.1, fun s hs => RDn_fr hF2 (by decide) (h2.2.2.2.2.2.2.2.2.2.2.2.2.2.2.2.2.2.1 s hs), RSum_fr hF2 (by decide) h2.2.2.2.2.2.2.2.2.2.2.2.2.2.2.2.2.2.2.1, h2.2.2.2.2.2.2.2.2.2.2.2.2.2.2.2.2.2.2.2.1, h2.2.2.2.2.2.2.2.2.2.2.2.2.2.2.2.2.2.2.2.2.1, h2.2.2.2.2.2.2.2.2.2.2.2.2.2.2.2.2.2.2.2.2.2.1, h2.2.2.2.2.2.2.2.2.2.2.2.2.2.2.2.2.2.2.2.2.2.2.1, h2.2.2.2.2.2.2.2.2.2.2.2.2.2.2.2.2.2.2.2.2.2.2.2⟩)
      rw [aWt_S]
      by_cases q3 : t = s
      · subst q3
        rw [if_pos rfl]
        refine ⟨?_, by rw [List.length_append]; simp; omega, fun i hi => ?_⟩
        · rw [setI_e, List.length_append]
          rfl
        · rw [getD_app]
          by_cases q4 : i < (aWt a t).length
          · rw [if_pos q4]
            exact RLt_fr hF2 (by decide) (hw2.2.2 i q4)
          · rw [List.length_append] at hi
            have : i = (aWt a t).length := by simp at hi; omega
            rw [if_neg q4, if_pos this, this]
            exact RLt_fr hF2 (by decide) hp.2
      · rw [if_neg q3]
        obtain ⟨x1, x2, x3⟩ := h2.2.2.1 t ht
        exact ⟨by rw [setI_i q3]; exact x1, x2, fun i hi => RLt_fr hF2 (by decide) (x3 i hi)⟩
  · rw [if_pos (Classical.not_not.mp q)]
    exact WP_call (M_sendOut (slot := 352) hF h1 (by omega) (by omega) hl) (fun p hp => WP_some hp.1)
/-- the beginning of a letter -/
def wrO (σ : RS) (k t a b c : Int32) : RS := setI (setI (setI (setI (setI (setI (setI σ 8 352 k) 9 352 t) 10 352 0) 11 352 0) 12 2816 a) 12 2817 b) 12 2818 c
theorem m_write_n {σ : RS} {k t a b c : Int32} : m_write σ k t a b c = some (wrO σ k t a b c) := by
  unfold m_write
  have g : ∀ f, f = 8 ∨ f = 9 ∨ f = 10 ∨ f = 11 → (352 : Nat) < rlen f := by
    intro f hf
    rcases hf with rfl | rfl | rfl | rfl <;> decide +kernel
  have g12 : ∀ n, n < 2832 → n < rlen 12 := fun n hn => (by decide +kernel : rlen 12 = 2832) ▸ hn
  rw [rst_n (i := 352) (n := 352) rfl (g 8 (by simp))]
  simp only [Option.bind_some]
  rw [rst_n (i := 352) (n := 352) rfl (g 9 (by simp))]
  simp only [Option.bind_some]
  rw [rst_n (i := 352) (n := 352) rfl (g 10 (by simp))]
  simp only [Option.bind_some]
  rw [rst_n (i := 352) (n := 352) rfl (g 11 (by simp))]
  simp only [Option.bind_some]
  rw [rst_n (i := 2816) (n := 2816) rfl (g12 _ (by omega))]
  simp only [Option.bind_some]
  rw [rst_n (i := 2817) (n := 2817) rfl (g12 _ (by omega))]
  simp only [Option.bind_some]
  rw [rst_n (i := 2818) (n := 2818) rfl (g12 _ (by omega))]
  rfl
theorem wrO_S {σ : RS} {k t a b c : Int32} : SLf 352 σ (wrO σ k t a b c) := by
  unfold wrO
  refine SLf_I (SLf_I (SLf_I (SLf_I (SLf_I (SLf_I (SLf_I SLf_refl ?_) ?_) ?_) ?_) ?_) ?_) ?_ <;> (unfold sOf; omega)
/-- a letter that was made, all but its ends -/
def Mad (K : List AK) (σ : RS) (l : AL) : Prop := σ.1 8 352 = l.1 4 ∧ σ.1 9 352 = l.1 5 ∧ σ.1 10 352 = Int32.ofNat l.2.1.length ∧ l.2.1.length ≤ 6 ∧ wfL l ∧
  (∃ U, U ≤ 1536 ∧ σ.1 11 352 = Int32.ofNat U ∧ (lBs K l).length ≤ U ∧ ∀ i, i < l.2.1.length → 256 * i + (eCon K (l.2.1.getD i (0, 0, 0, 0, 0, 0))).length ≤ U) ∧
  (∀ j v, lTd K l j = some v → σ.1 12 (2816 + j) = v) ∧
  (∀ i v, (lBs K l)[i]? = some v → rLb σ 352 i = v) ∧
  (∀ i, i < l.2.1.length →
    let e := l.2.1.getD i (0, 0, 0, 0, 0, 0)
    wfE K e ∧ (eCon K e).length ≤ 256 ∧ σ.1 13 (2112 + i) = e.1 ∧ σ.1 14 (2112 + i) = e.2.1 ∧ σ.1 15 (2112 + i) = e.2.2.1 ∧ bM (fun q => rLb σ 352 (256 * i + q)) (eCon K e) 256)
theorem Mad_L {K : List AK} {σ : RS} {l : AL} (h : Mad K σ l) : RLt K (ltO σ (l.1 2) (l.1 3)) 352 l := by
  obtain ⟨h1, h2, h3, h4, h5, h6, h7, h8, h9⟩ := h
  exact ⟨rfl, rfl, h1, h2, h3, h4, h5, h6, h7, h8, h9⟩
theorem M_postM {F : Nat} {σ : RS} {a : AA} {u : AU} {s : Nat} {to : Int32} {l : AL} (hF : 400 ≤ F) (h : RM σ a u) (hs : s < 7) (hl : Mad (aAk a) σ l) (e2 : l.1 2 = Int32.ofNat s) (e3 : l.1 3 = to) : WP (m_post F σ (Int32.ofNat s) to) (fun σ' => RM σ' (A_post a s l) u) := by
  have := Mad_L hl
  rw [e2, e3] at this
  exact M_post hF h hs this
/-- a letter without entries or bytes -/
theorem Mad_plain {K : List AK} {σ : RS} {k t a b c : Int32} {l : AL} (e1 : l.2.1 = []) (e2 : lBs K l = []) (e4 : l.1 4 = k) (e5 : l.1 5 = t) (w : wfL l) (td : ∀ j v, lTd K l j = some v → (j = 0 ∧ v = a) ∨ (j = 1 ∧ v = b) ∨ (j = 2 ∧ v = c)) : Mad K (wrO σ k t a b c) l := by
  refine ⟨e4.symm, e5.symm, ?_, ?_, w, ⟨0, by omega, rfl, ?_, ?_⟩, fun j v hv => ?_, ?_, ?_⟩
  · rw [e1]
    rfl
  · rw [e1]
    exact Nat.zero_le _
  · rw [e2]
    exact Nat.le_refl _
  · rw [e1]
    exact fun i hi => absurd hi (Nat.not_lt_zero _)
  · rcases td j v hv with ⟨rfl, rfl⟩ | ⟨rfl, rfl⟩ | ⟨rfl, rfl⟩ <;> rfl
  · rw [e2]
    intro i v hv
    simp at hv
  · rw [e1]
    exact fun i hi => absurd hi (Nat.not_lt_zero _)
theorem M_write {σ : RS} {a : AA} {u : AU} {k t x y z : Int32} {l : AL} (h : RM σ a u) (e1 : l.2.1 = []) (e2 : lBs (aAk a) l = []) (e4 : l.1 4 = k) (e5 : l.1 5 = t) (w : wfL l) (td : ∀ j v, lTd (aAk a) l j = some v → (j = 0 ∧ v = x) ∨ (j = 1 ∧ v = y) ∨ (j = 2 ∧ v = z)) : WP (m_write σ k t x y z) (fun p => RM p a u ∧ Mad (aAk a) p l) := by
  rw [m_write_n]
  exact WP_some ⟨RM_out h wrO_S, Mad_plain e1 e2 e4 e5 w td⟩
theorem wfS {s : Nat} (hs : s < 7) : aInR (Int32.ofNat s) 0 6 = true ∨ aInR (Int32.ofNat s) 8 15 = true := by
  left
  revert hs s
  decide
theorem M_tell {F : Nat} {σ : RS} {a : AA} {u : AU} {s : Nat} {f k x y z x7 x6 x12 x10 : Int32} (hF : 400 ≤ F) (h : RM σ a u) (hs : s < 7) (hf : aInR f 0 6 = true ∨ aInR f 8 15 = true)
    (hk : (k = 6 ∧ x = x6 ∧ y = x7 ∧ z = x10) ∨ (k = 8 ∧ x = x7 ∧ y = x12 ∧ z = x10) ∨ k = 9) : WP (m_tell F σ (Int32.ofNat s) f k x y z) (fun σ' => RM σ' (A_tell a s f k x7 x6 x12 x10) u) := by
  unfold m_tell A_tell
  refine WP_r7 h (by decide) hs ?_
  refine WP_call (M_write (l := (aU (aU (aU (aU (aLet (Int32.ofNat s) f k (aS a 53 s)).1 7 x7) 6 x6) 12 x12) 10 x10, [], [], ([], []))) h rfl ?_ rfl rfl ⟨wfS hs, hf⟩ ?_) (fun p hp => ?_)
  · rcases hk with ⟨rfl, _⟩ | ⟨rfl, _⟩ | rfl <;> rfl
  · intro j v hv
    rcases hk with ⟨rfl, rfl, rfl, rfl⟩ | ⟨rfl, rfl, rfl, rfl⟩ | rfl
    · match j, hv with
      | 0, hv => exact Or.inl ⟨rfl, (Option.some.inj hv).symm⟩
      | 1, hv => exact Or.inr (Or.inl ⟨rfl, (Option.some.inj hv).symm⟩)
      | 2, hv => exact Or.inr (Or.inr ⟨rfl, (Option.some.inj hv).symm⟩)
      | j + 3, hv => exact absurd hv (by simp [lTd, aU, aLet])
    · match j, hv with
      | 0, hv => exact Or.inl ⟨rfl, (Option.some.inj hv).symm⟩
      | 1, hv => exact Or.inr (Or.inl ⟨rfl, (Option.some.inj hv).symm⟩)
      | 2, hv => exact Or.inr (Or.inr ⟨rfl, (Option.some.inj hv).symm⟩)
      | j + 3, hv => exact absurd hv (by simp [lTd, aU, aLet])
    · exact absurd hv (by simp [lTd, aU, aLet])
  · refine WP_call (M_postM hF hp.1 hs hp.2 rfl rfl) (fun q hq => WP_some hq)
