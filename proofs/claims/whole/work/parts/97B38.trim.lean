/-! trim -/
theorem rmAll_app {s f : Nat} : ∀ (l : List Nat) (a : AA), aRemoveAll a s (l ++ [f]) = aRemove (aRemoveAll a s l) s f := by
  intro l
  induction l with
  | nil => exact fun _ => rfl
  | cons x r ih => exact fun a => ih _
/-- removed files: what is left of them -/
theorem rmAll_fc {s : Nat} : ∀ (l : List Nat) (a : AA) (t g : Nat), (aFc (aRemoveAll a s l) t g).1 2 = (aFc a t g).1 2 ∧ (¬ (t = s ∧ g ∈ l) → aFc (aRemoveAll a s l) t g = aFc a t g) ∧ (t = s ∧ g ∈ l → (aFc (aRemoveAll a s l) t g).1 0 = 0) := by
  intro l
  induction l with
  | nil => exact fun a t g => ⟨rfl, fun _ => rfl, fun z => absurd z.2 List.not_mem_nil⟩
  | cons x r ih =>
    intro a t g
    obtain ⟨h1, h2, h3⟩ := ih (aRemove a s x) t g
    have e : aFc (aRemove a s x) t g = if t = s ∧ g = x then (aU (aU (aFc a s x).1 0 0) 1 0, (aFc a s x).2) else aFc a t g := aFc_put
    refine ⟨?_, fun z => ?_, fun z => ?_⟩
    · show (aFc (aRemoveAll (aRemove a s x) s r) t g).1 2 = _
      rw [h1, e]
      by_cases q : t = s ∧ g = x
      · rw [if_pos q, q.1, q.2]
        rfl
      · rw [if_neg q]
    · show aFc (aRemoveAll (aRemove a s x) s r) t g = _
      rw [h2 (fun y => z ⟨y.1, List.mem_cons_of_mem _ y.2⟩), e, if_neg (fun y => z ⟨y.1, by rw [y.2]; exact List.mem_cons_self⟩)]
    · show (aFc (aRemoveAll (aRemove a s x) s r) t g).1 0 = 0
      by_cases q : g ∈ r
      · exact h3 ⟨z.1, q⟩
      · rw [h2 (fun y => q y.2), e, if_pos ⟨z.1, (List.mem_cons.mp z.2).resolve_right q⟩]
        rfl
theorem rmAll_ot {s : Nat} : ∀ (l : List Nat) (a : AA), AFr [43] [6] a (aRemoveAll a s l) := by
  intro l
  induction l with
  | nil => exact fun a => AFr_w AFr_r (by decide) (by decide)
  | cons x r ih =>
    intro a
    have h1 : AFr [43] [6] a (aRemove a s x) := AFr_w (AFr_t AFr_put AFr_I) (by decide) (by decide)
    exact AFr_w (AFr_t h1 (ih _)) (by decide) (by decide)
/-- the chain of a server whose base has moved -/
def WPre (a : AA) (s : Nat) : Prop := (aCh a s).Nodup ∧ (∀ f, 4 ≤ f → f < 16 → (aFc a s f).1 0 = 1 → f ∈ aCh a s) ∧ (aLast a s = aBase a s ∨ ∃ n : Int, 1 ≤ n ∧ n ≤ (aBase a s).toInt + 1 ∧ chOK (aFc a s) ((aLast a s).toInt + 1) n (aCh a s))
theorem WPre_of {a : AA} {s : Nat} (h : WCh a s) : WPre a s := ⟨h.1, h.2.1, h.2.2.imp (fun z => z.2) id⟩
def aOldN (a : AA) (s : Nat) (c : List Nat) : List Nat × List Nat := if aLast a s = aBase a s then (c, []) else aOld a s c
theorem aOld_app {a : AA} {s : Nat} : ∀ c : List Nat, (aOld a s c).1 ++ (aOld a s c).2 = c := by
  intro c
  induction c with
  | nil => rfl
  | cons f r ih =>
    cases r with
    | nil => rfl
    | cons g q =>
      unfold aOld
      split
      · show f :: ((aOld a s (g :: q)).1 ++ (aOld a s (g :: q)).2) = _
        rw [ih]
      · rfl
theorem aOldN_app {a : AA} {s : Nat} {c : List Nat} : (aOldN a s c).1 ++ (aOldN a s c).2 = c := by
  unfold aOldN
  split
  · exact List.append_nil c
  · exact aOld_app c
/-- what is left begins at the base or ahead of it -/
theorem chOK_old {a : AA} {s : Nat} {e : Int} (hb : 0 ≤ (aBase a s).toInt) (hb2 : (aBase a s).toInt < 1073741824) : ∀ (c : List Nat) (n : Int), 1 ≤ n → n ≤ (aBase a s).toInt + 1 → chOK (aFc a s) e n c → ∃ n' : Int, 1 ≤ n' ∧ n' ≤ (aBase a s).toInt + 1 ∧ chOK (aFc a s) e n' (aOld a s c).2 := by
  intro c
  induction c with
  | nil => exact fun n h1 h2 h => ⟨n, h1, h2, h⟩
  | cons f r ih =>
    intro n h1 h2 h
    cases r with
    | nil => exact ⟨n, h1, h2, h⟩
    | cons g q =>
      unfold aOld
      by_cases z : (aFc a s g).1 2 ≤ aBase a s + 1
      · rw [if_pos z]
        obtain ⟨a1, a2, a3, a4, a5, a6⟩ := h
        have a6' := a6
        obtain ⟨b1, b2, b3, b4, b5, b6⟩ := a6'
        rw [Int32.le_iff_toInt_le, i_succ (by omega), b4] at z
        exact ih _ (by omega) z a6
      · rw [if_neg z]
        exact ⟨n, h1, h2, h⟩
theorem WCh_trim {a : AA} {s : Nat} (w : WLg a s) (h : WPre a s) : WCh (aChS (aRemoveAll a s (aOldN a s (aCh a s)).1) s (aOldN a s (aCh a s)).2) s := by
  obtain ⟨h1, h2, h3⟩ := h
  have happ := @aOldN_app a s (aCh a s)
  have ec : aCh (aChS (aRemoveAll a s (aOldN a s (aCh a s)).1) s (aOldN a s (aCh a s)).2) s = (aOldN a s (aCh a s)).2 := if_pos rfl
  have ef : ∀ g, aFc (aChS (aRemoveAll a s (aOldN a s (aCh a s)).1) s (aOldN a s (aCh a s)).2) s g = aFc (aRemoveAll a s (aOldN a s (aCh a s)).1) s g := fun g => rfl
  have fr := rmAll_ot (s := s) (aOldN a s (aCh a s)).1 a
  have hnd : (aOldN a s (aCh a s)).2.Nodup ∧ ∀ x ∈ (aOldN a s (aCh a s)).1, x ∉ (aOldN a s (aCh a s)).2 := by
    rw [← happ] at h1
    obtain ⟨n1, n2, n3⟩ := List.nodup_append.mp h1
    exact ⟨n2, fun x hx hy => n3 x hx x hy rfl⟩
  have eb : aBase (aChS (aRemoveAll a s (aOldN a s (aCh a s)).1) s (aOldN a s (aCh a s)).2) s = aBase a s := fr.1 55 (by decide) s
  have el : aLast (aChS (aRemoveAll a s (aOldN a s (aCh a s)).1) s (aOldN a s (aCh a s)).2) s = aLast a s := fr.1 56 (by decide) s
  refine ⟨by rw [ec]; exact hnd.1, fun f f1 f2 f3 => ?_, ?_⟩
  · rw [ef] at f3
    rw [ec]
    by_cases q : f ∈ (aOldN a s (aCh a s)).1
    · rw [(rmAll_fc _ a s f).2.2 ⟨rfl, q⟩] at f3
      exact absurd f3 (by decide)
    · rw [(rmAll_fc _ a s f).2.1 (fun y => q y.2)] at f3
      have := h2 f f1 f2 f3
      rw [← happ] at this
      exact (List.mem_append.mp this).resolve_left q
  · rw [ec, eb, el]
    by_cases q : aLast a s = aBase a s
    · left
      refine ⟨?_, q⟩
      unfold aOldN
      rw [if_pos q]
    · right
      obtain ⟨n, n1, n2, n3⟩ := h3.resolve_left q
      have w' := w
      obtain ⟨w1, w2, w3, w4⟩ := w'
      obtain ⟨n', m1, m2, m3⟩ := chOK_old w1 (by omega) _ n n1 n2 n3
      refine ⟨n', m1, m2, ?_⟩
      have : (aOldN a s (aCh a s)).2 = (aOld a s (aCh a s)).2 := by
        unfold aOldN
        rw [if_neg q]
      rw [this] at hnd ⊢
      refine chOK_f _ _ (fun g hg => ?_) m3
      show aFc (aRemoveAll a s (aOldN a s (aCh a s)).1) s g = _
      rw [(rmAll_fc _ a s g).2.1]
      intro y
      exact hnd.2 g y.2 hg
theorem aTrim_e {a : AA} {s : Nat} : aTrim a s = aChS (aRemoveAll a s (aOldN a s (aCh a s)).1) s (aOldN a s (aCh a s)).2 := rfl
theorem M_trim {F : Nat} {σ : RS} {a : AA} {u : AU} {s : Nat} (hF : 400 ≤ F) (h : RM σ a (u.1, fun x => u.2 x ∧ x ≠ s)) (hs : s < 7) (hup : aS a 52 s = 1) (hp : WPre a s) : WP (m_trim F σ (Int32.ofNat s)) (fun τ => RM τ (aTrim a s) u) := by
  have wl := RM_wl h hs
  have hch0 := h.2.2.2.2.2.2.2.1 s hs hup
  have hlen := hch0.2.1
  have wl' := wl
  obtain ⟨w1, w2, w3, w4⟩ := wl'
  -- the rows move ahead
  have shift : ∀ (G : Nat) (rest : List Nat) (b : AA), G + rest.length = (aCh a s).length → (aCh a s).drop G = rest → aCh b s = aCh a s → aS b 52 s = 1 → WCh (aChS b s rest) s → ∀ n k (τ : RS), rest.length + 1 ≤ k + n → k ≤ rest.length → ∀ τ0 : RS, RM τ0 b (u.1, fun x => u.2 x ∧ x ≠ s) → Fr [49, 50, 51] [] τ0 τ → (∀ t, t < 7 → t ≠ s → τ.1 49 t = τ0.1 49 t ∧ ∀ i, i < 12 → τ.1 50 (12 * t + i) = τ0.1 50 (12 * t + i) ∧ τ.1 51 (12 * t + i) = τ0.1 51 (12 * t + i)) → τ.1 49 s = Int32.ofNat rest.length →
      (∀ i, i < 12 → τ.1 50 (12 * s + i) = (if i < k then τ0.1 50 (12 * s + (i + G)) else τ0.1 50 (12 * s + i)) ∧ τ.1 51 (12 * s + i) = (if i < k then τ0.1 51 (12 * s + (i + G)) else τ0.1 51 (12 * s + i))) → WP (m_trim_b97 F n τ (Int32.ofNat s) (Int32.ofNat G) (Int32.ofNat k)) (fun τ' => RM τ' (aChS b s rest) u) := by
    intro G rest b g1 g2 g3 g4 g5 n
    induction n with
    | zero => intro k τ h1 h2; omega
    | succ n ih =>
      intro k τ h1 h2 τ0 hb hF1 ho h49 h50
      unfold m_trim_b97
      refine WP_ld rfl 7 (by decide +kernel) hs ?_
      rw [h49]
      refine WP_if (i_gei (by omega) (by omega)) (fun y => ?_) (fun y => ?_)
      · have : k = rest.length := by omega
        subst this
        have hbc := hb.2.2.2.2.2.2.2.1 s hs g4
        rw [g3] at hbc
        refine WP_some (RM_chx (u := u) hb hs hF1 ho (fun _ => ⟨h49, by omega, fun i hi => ?_⟩) (fun hu => ?_) (fun _ _ => g5))
        · obtain ⟨y1, y2, y3, y4⟩ := hbc.2.2 (i + G) (by omega)
          have eg : rest.getD i 0 = (aCh a s).getD (i + G) 0 := by
            rw [← g2, List.getD_eq_getElem?_getD, List.getElem?_drop, List.getD_eq_getElem?_getD, Nat.add_comm]
          rw [eg]
          obtain ⟨z1, z2⟩ := h50 i (by omega)
          rw [if_pos hi] at z1 z2
          exact ⟨y1, y2, z1.trans y3, z2.trans y4⟩
        · intro f hf k' i' hi' hk' e'
          refine hb.2.2.2.2.2.2.2.2.1 s hs hu f ?_ k' i' hi' hk' e'
          rw [g3]
          rw [← g2] at hf
          exact List.mem_of_mem_drop hf
      · rw [show (12 : Int32) * Int32.ofNat s + Int32.ofNat k + Int32.ofNat G = Int32.ofNat (12 * s + (k + G)) by
          rw [show (12 : Int32) = Int32.ofNat 12 from rfl, i_ma, i_ad, Nat.add_assoc], show (12 : Int32) * Int32.ofNat s + Int32.ofNat k = Int32.ofNat (12 * s + k) from i_ma]
        refine WP_ld rfl 84 (by decide +kernel) (by omega) ?_
        refine WP_st rfl 84 (by decide +kernel) (by omega) ?_
        refine WP_ld rfl 84 (by decide +kernel) (by omega) ?_
        refine WP_st rfl 84 (by decide +kernel) (by omega) ?_
        rw [i_s, setI_f (show (51 : Nat) ≠ 50 by decide)]
        obtain ⟨z1, z2⟩ := h50 (k + G) (by omega)
        rw [z1, z2]
        have zz : (if k + G < k then τ0.1 50 (12 * s + (k + G + G)) else τ0.1 50 (12 * s + (k + G))) = τ0.1 50 (12 * s + (k + G)) := if_neg (by omega)
        have zz2 : (if k + G < k then τ0.1 51 (12 * s + (k + G + G)) else τ0.1 51 (12 * s + (k + G))) = τ0.1 51 (12 * s + (k + G)) := if_neg (by omega)
        rw [zz, zz2]
        refine ih (k + 1) _ (by omega) (by omega) τ0 hb (Fr_w (Fr_t (Fr_t hF1 Fr_I) Fr_I) (by simp) (by simp)) (fun t ht htn => ?_) ?_ (fun i hi => ?_)
        · obtain ⟨o1, o2⟩ := ho t ht htn
          refine ⟨by rw [setI_f (by decide), setI_f (by decide)]; exact o1, fun i hi => ⟨?_, ?_⟩⟩
          · rw [setI_f (by decide), setI_i (by omega)]
            exact (o2 i hi).1
          · rw [setI_i (by omega), setI_f (by decide)]
            exact (o2 i hi).2
        · rw [setI_f (by decide), setI_f (by decide)]
          exact h49
        · obtain ⟨x1, x2⟩ := h50 i hi
          by_cases q : i = k
          · rw [q, setI_f (by decide), setI_e, setI_e, if_pos (by omega), if_pos (by omega)]
            exact ⟨rfl, rfl⟩
          · rw [setI_f (by decide), setI_i (by omega), setI_i (by omega), setI_f (by decide), x1, x2]
            by_cases q2 : i < k
            · rw [if_pos q2, if_pos q2, if_pos (by omega), if_pos (by omega)]
              exact ⟨rfl, rfl⟩
            · rw [if_neg q2, if_neg q2, if_neg (by omega), if_neg (by omega)]
              exact ⟨rfl, rfl⟩
  have key : ∀ n (pre rest : List Nat) (τ : RS), rest.length + 1 ≤ n → pre ++ rest = aCh a s → aOldN a s (aCh a s) = (pre ++ (aOldN a s rest).1, (aOldN a s rest).2) → RM τ (aRemoveAll a s pre) (u.1, fun x => u.2 x ∧ x ≠ s) → WP (m_trim_b2 F n τ (Int32.ofNat s) (Int32.ofNat pre.length)) (fun τ => RM τ (aTrim a s) u) := by
    intro n
    induction n with
    | zero => intro pre rest τ h1; omega
    | succ n ih =>
      intro pre rest τ h1 h2 h3 hτ
      have fr := rmAll_ot (s := s) pre a
      have ech : aCh (aRemoveAll a s pre) s = aCh a s := by rw [fr.2.2.2.2.2.2.2.2.2.1 (by decide)]
      have eup : aS (aRemoveAll a s pre) 52 s = 1 := (fr.1 52 (by decide) s).trans hup
      have hch := hτ.2.2.2.2.2.2.2.1 s hs eup
      rw [ech] at hch
      have hpl : pre.length + rest.length = (aCh a s).length := by rw [← h2, List.length_append]
      have stop : (aOldN a s rest).1 = [] → (aOldN a s rest).2 = rest → WP (m_trim_b85 F τ (Int32.ofNat s) (Int32.ofNat pre.length)) (fun τ => RM τ (aTrim a s) u) := by
        intro z1 z2
        unfold m_trim_b85
        refine WP_ld rfl 7 (by decide +kernel) hs ?_
        rw [hch.1, i_subn (by omega), show (aCh a s).length - pre.length = rest.length by omega]
        refine WP_st rfl 7 (by decide +kernel) hs ?_
        rw [z1, z2, List.append_nil] at h3
        have eT : aTrim a s = aChS (aRemoveAll a s pre) s rest := by rw [aTrim_e, h3]
        rw [eT]
        have hw := WCh_trim wl hp
        rw [h3] at hw
        exact shift pre.length rest (aRemoveAll a s pre) hpl (by rw [← h2, List.drop_left]) ech eup hw F 0 _ (by omega) (Nat.zero_le _) τ hτ (Fr_w Fr_I (by simp) (by simp)) (fun t ht htn => ⟨setI_i htn, fun i hi => ⟨setI_f (by decide), setI_f (by decide)⟩⟩) setI_e (fun i hi => by
          rw [if_neg (by omega), if_neg (by omega), setI_f (by decide), setI_f (by decide)]
          exact ⟨rfl, rfl⟩)
      unfold m_trim_b2
      refine WP_ld rfl 7 (by decide +kernel) hs ?_
      rw [hch.1]
      refine WP_if (i_gei (by omega) (by omega)) (fun y => ?_) (fun y => ?_)
      · have : rest = [] := List.eq_nil_of_length_eq_zero (by omega)
        subst this
        refine stop ?_ ?_
        · unfold aOldN
          split <;> rfl
        · unfold aOldN
          split <;> rfl
      · obtain ⟨f, r, hfr⟩ : ∃ f r, rest = f :: r := by
          cases rest with
          | nil => simp at hpl; omega
          | cons f r => exact ⟨f, r, rfl⟩
        subst hfr
        have hgf : (aCh a s).getD pre.length 0 = f := by
          rw [← h2, List.getD_eq_getElem?_getD, List.getElem?_append_right (Nat.le_refl _), Nat.sub_self]
          rfl
        have go : aOldN a s (f :: r) = (f :: (aOldN a s r).1, (aOldN a s r).2) → WP (m_trim_b63 F (m_trim_b2 F n) τ (Int32.ofNat s) (Int32.ofNat pre.length)) (fun τ => RM τ (aTrim a s) u) := by
          intro z
          unfold m_trim_b63
          rw [show (12 : Int32) * Int32.ofNat s + Int32.ofNat pre.length = Int32.ofNat (12 * s + pre.length) from i_ma]
          obtain ⟨y1, y2, y3, y4⟩ := hch.2.2 pre.length (by omega)
          rw [hgf] at y1 y2 y3 y4
          refine WP_ld rfl 84 (by decide +kernel) (by omega) ?_
          rw [y3]
          refine WP_call (M_removeFile hτ hs y2 (by omega) (fun x => x.2 rfl)) (fun τ2 h2' => ?_)
          rw [i_s, show pre.length + 1 = (pre ++ [f]).length by simp]
          refine ih (pre ++ [f]) r τ2 (by simp at h1; omega) (by rw [List.append_assoc]; exact h2) ?_ (by rw [rmAll_app]; exact h2')
          rw [h3, z, List.append_assoc]
          rfl
        refine WP_ld rfl 7 (by decide +kernel) hs ?_
        refine WP_ld rfl 7 (by decide +kernel) hs ?_
        have e56 : τ.1 56 s = aLast a s := ((RM_7 (f := 56) hτ (by decide) hs).trans (fr.1 56 (by decide) s))
        have e55 : τ.1 55 s = aBase a s := ((RM_7 (f := 55) hτ (by decide) hs).trans (fr.1 55 (by decide) s))
        rw [e56, e55]
        refine WP_if c2_eq (fun q => ?_) (fun q => ?_)
        · refine go ?_
          unfold aOldN
          rw [if_pos q, if_pos q]
        · refine WP_ld rfl 7 (by decide +kernel) hs ?_
          rw [hch.1, i_pre (by omega)]
          refine WP_if (i_gei (by omega) (by omega)) (fun y2 => ?_) (fun y2 => ?_)
          · have : r = [] := List.eq_nil_of_length_eq_zero (by simp at hpl; omega)
            subst this
            refine stop ?_ ?_
            · unfold aOldN
              rw [if_neg q]
              rfl
            · unfold aOldN
              rw [if_neg q]
              rfl
          · obtain ⟨g, r', hgr⟩ : ∃ g r', r = g :: r' := by
              cases r with
              | nil => simp at hpl; omega
              | cons g r' => exact ⟨g, r', rfl⟩
            subst hgr
            have hgg : (aCh a s).getD (pre.length + 1) 0 = g := by
              rw [← h2, List.getD_eq_getElem?_getD, List.getElem?_append_right (by omega), show pre.length + 1 - pre.length = 1 by omega]
              rfl
            obtain ⟨x1, x2, x3, x4⟩ := hch.2.2 (pre.length + 1) (by simp at hpl; omega)
            rw [hgg] at x1 x2 x3 x4
            rw [show (12 : Int32) * Int32.ofNat s + Int32.ofNat pre.length + 1 = Int32.ofNat (12 * s + (pre.length + 1)) by
              rw [show (12 : Int32) = Int32.ofNat 12 from rfl, i_ma, i_s]
              rfl]
            refine WP_ld rfl 84 (by decide +kernel) (by omega) ?_
            rw [x4, (rmAll_fc pre a s g).1]
            refine WP_ld rfl 7 (by decide +kernel) hs ?_
            rw [e55]
            refine WP_if c2_gt (fun q2 => ?_) (fun q2 => ?_)
            · have hn : ¬ (aFc a s g).1 2 ≤ aBase a s + 1 := i_nle.mpr q2
              have e : aOld a s (f :: g :: r') = ([], f :: g :: r') := if_neg hn
              refine stop ?_ ?_
              · unfold aOldN
                rw [if_neg q, e]
              · unfold aOldN
                rw [if_neg q, e]
            · refine go ?_
              have e : aOld a s (f :: g :: r') = (f :: (aOld a s (g :: r')).1, (aOld a s (g :: r')).2) := if_pos (i_nlt.mp q2)
              unfold aOldN
              rw [if_neg q, if_neg q, e]
  unfold m_trim m_trim_b0
  exact key F [] (aCh a s) σ (by omega) rfl rfl h
