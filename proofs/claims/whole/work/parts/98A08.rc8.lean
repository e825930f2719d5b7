/-! bells: silent, first; letters: first, lost, doubled, deferred -/
def aHush (a : AA) (b : Nat) : AA := if b < 16 then aI a 29 b (-1) else aI a 31 (b - 16) (-1)
theorem aS_hush {a : AA} {b : Nat} {f i : Nat} (hf : f ≠ 29 ∧ f ≠ 31) : aS (aHush a b) f i = aS a f i := by
  unfold aHush
  by_cases q : b < 16
  · rw [if_pos q, aS_If hf.1]
  · rw [if_neg q, aS_If hf.2]
theorem a2_hush {a : AA} {b : Nat} : (aHush a b).2 = a.2 ∧ (aHush a b).1.2 = a.1.2 := by
  unfold aHush
  by_cases q : b < 16
  · rw [if_pos q]
    exact ⟨rfl, rfl⟩
  · rw [if_neg q]
    exact ⟨rfl, rfl⟩
theorem bn_hush {a : AA} {b x : Nat} (hb : b < 23) (hx : x < 23) : aBn (aHush a b) x = (if x = b then -1 else aBn a x) ∧ aBt (aHush a b) x = aBt a x := by
  unfold aHush aBn aBt
  by_cases q : b < 16
  · rw [if_pos q]
    by_cases r : x < 16
    · rw [if_pos r, if_pos r, if_pos r, if_pos r]
      by_cases z : x = b
      · rw [if_pos z, z]
        exact ⟨if_pos ⟨rfl, rfl⟩, aS_If (by decide)⟩
      · rw [if_neg z]
        exact ⟨if_neg (fun y => z y.2), aS_If (by decide)⟩
    · rw [if_neg r, if_neg r, if_neg r, if_neg r, if_neg (by omega)]
      exact ⟨aS_If (by decide), aS_If (by decide)⟩
  · rw [if_neg q]
    by_cases r : x < 16
    · rw [if_pos r, if_pos r, if_pos r, if_pos r, if_neg (by omega)]
      exact ⟨aS_If (by decide), aS_If (by decide)⟩
    · rw [if_neg r, if_neg r, if_neg r, if_neg r]
      by_cases z : x = b
      · rw [if_pos z, z]
        exact ⟨if_pos ⟨rfl, rfl⟩, aS_If (by decide)⟩
      · have z' : ¬ x - 16 = b - 16 := by omega
        rw [if_neg z]
        exact ⟨if_neg (fun y => z' y.2), aS_If (by decide)⟩
theorem RC_hush {c : CS} {a : AA} {v : CV} {b : Nat} (h : RC c a v) (hb : b < 23) : RC (csI c 14 0 10 b (-1)) (aHush a b) v := by
  have hF : Ck [32 * 14 + 10] 0 c (csI c 14 0 10 b (-1)) := Ck_I (Or.inl rfl)
  have e : ∀ f, f ∉ [29, 31] → ∀ i, aS (aHush a b) f i = aS a f i := fun f hf i => aS_hush (by simpa using hf)
  refine RC_G h hF rfl e a2_hush.1 a2_hush.2 (by decide) (by decide) ?_ ?_ ?_
  · exact KSc_al (KSc_fr hF (by decide) h.1) (fun F hF' i => e F (fun z => by
      have := (by decide : ∀ F ∈ sT.map (fun x => x.1), F ∉ [29, 31]) F hF'
      exact this z) i)
  · intro x hx
    obtain ⟨b1, b2⟩ := bn_hush (a := a) (b := b) (x := x) hb hx
    rw [b1, b2]
    by_cases q : x = b
    · subst q
      rw [if_pos rfl, csI_e]
      exact ⟨fun z => absurd z (by decide), fun _ => rfl⟩
    · have e10 : cI (csI c 14 0 10 b (-1)) 14 0 10 x = cI c 14 0 10 x := csI_j q
      have e11 : cI (csI c 14 0 10 b (-1)) 14 0 11 x = cI c 14 0 11 x := csI_j q
      rw [if_neg q, e10, e11]
      exact h.2.2.2.2.2.1 x hx
  · have := h.2.2.2.2.2.2.2.2.2.2.2.2.2.2.2.2.2.2.2.2.2.2
    unfold nwOK aNow at this ⊢
    simp only [e 1 (by decide), e 72 (by decide), e 71 (by decide), e 27 (by decide)]
    exact this
theorem K_hush {c : CS} {a : AA} {v : CV} {b : Nat} (h : RC c a v) (hb : b < 23) : WP (k_World_hush c 0 (Int32.ofNat b)) (fun c' => RC c' (aHush a b) v) := by
  unfold k_World_hush k_World_hush_b0
  exact WP_eq (cwr_n rfl (show b < 23 from hb) (by omega)) (WP_some (RC_hush h hb))
/-- it becomes later -/
theorem RC_now {c : CS} {a : AA} {v : CV} {t : Int32} (h : RC c a v) (h0 : 0 ≤ t.toInt) (h1 : t.toInt < 1073741824) : RC (csI c 14 0 0 0 t) (aI a 1 0 t) v := by
  have hF : Ck [32 * 14 + 0] 0 c (csI c 14 0 0 0 t) := Ck_I (Or.inl rfl)
  refine RC_G (W := [1]) h hF rfl (fun f hf i => aS_If (by simpa using hf)) rfl rfl (by decide) (by decide) (KSc_I (by decide) h.1) ?_ ?_
  · have := KBl_fr hF (by decide) h.2.2.2.2.2.1
    unfold KBl aBn aBt at this ⊢
    simp only [aS_If (show (29 : Nat) ≠ 1 by decide), aS_If (show (30 : Nat) ≠ 1 by decide), aS_If (show (31 : Nat) ≠ 1 by decide), aS_If (show (32 : Nat) ≠ 1 by decide)]
    exact this
  · have n := h.2.2.2.2.2.2.2.2.2.2.2.2.2.2.2.2.2.2.2.2.2.2
    unfold nwOK at n ⊢
    simp only [aS_If (show (72 : Nat) ≠ 1 by decide), aS_If (show (71 : Nat) ≠ 1 by decide), aS_If (show (27 : Nat) ≠ 1 by decide)]
    have e : aNow (aI a 1 0 t) = t := rfl
    rw [e]
    exact ⟨h0, h1, n.2.2⟩
theorem aBell_lt {a : AA} : ∀ {n f : Nat}, aBell a n = some f → f < n ∧ 0 ≤ aBn a f := by
  intro n
  induction n with
  | zero => intro f h; cases h
  | succ n ih =>
    intro f h
    unfold aBell at h
    cases q : aBell a n with
    | none =>
      rw [q] at h
      dsimp only at h
      by_cases z : 0 ≤ aBn a n
      · rw [if_pos z] at h
        cases h
        exact ⟨by omega, z⟩
      · rw [if_neg z] at h
        cases h
    | some g =>
      rw [q] at h
      dsimp only at h
      by_cases z : 0 ≤ aBn a n ∧ (aBt a n < aBt a g ∨ (aBt a n = aBt a g ∧ aBn a n < aBn a g))
      · rw [if_pos z] at h
        cases h
        exact ⟨by omega, z.1⟩
      · rw [if_neg z] at h
        cases h
        obtain ⟨z1, z2⟩ := ih q
        exact ⟨by omega, z2⟩
theorem aBell_sn {a : AA} {b : Nat} (h : aBell a b = none) : aBell a (b + 1) = if 0 ≤ aBn a b then some b else none := by
  show (match aBell a b with
    | none => if 0 ≤ aBn a b then some b else none
    | some f => if 0 ≤ aBn a b ∧ (aBt a b < aBt a f ∨ (aBt a b = aBt a f ∧ aBn a b < aBn a f)) then some b else some f) = _
  rw [h]
theorem aBell_ss {a : AA} {b f : Nat} (h : aBell a b = some f) : aBell a (b + 1) = if 0 ≤ aBn a b ∧ (aBt a b < aBt a f ∨ (aBt a b = aBt a f ∧ aBn a b < aBn a f)) then some b else some f := by
  show (match aBell a b with
    | none => if 0 ≤ aBn a b then some b else none
    | some f => if 0 ≤ aBn a b ∧ (aBt a b < aBt a f ∨ (aBt a b = aBt a f ∧ aBn a b < aBn a f)) then some b else some f) = _
  rw [h]
def eB (o : Option Nat) : Int32 := match o with
  | none => -1
  | some b => Int32.ofNat b
theorem bell_not {c : CS} {a : AA} {v : CV} {b : Nat} (h : RC c a v) (hb : b < 23) : cI c 14 0 10 b = -1 ↔ ¬ 0 ≤ aBn a b := by
  obtain ⟨h1, h2⟩ := h.2.2.2.2.2.1 b hb
  constructor
  · intro e z
    obtain ⟨y1, y2, _⟩ := h1 z
    rw [y2] at e
    rw [e] at y1
    exact absurd y1 (by decide)
  · intro z
    exact h2 (i_nle.mp z)
theorem K_firstBell {F : Nat} {c : CS} {a : AA} {v : CV} (hF : 30 ≤ F) (h : RC c a v) : WP (k_World_firstBell F c 0) (fun r => r = eB (aBell a 23)) := by
  unfold k_World_firstBell k_World_firstBell_b0
  have key : ∀ n b, 24 ≤ b + n → b ≤ 23 → WP (k_World_firstBell_b4 F n c 0 (eB (aBell a b)) (Int32.ofNat b)) (fun r => r = eB (aBell a 23)) := by
    intro n
    induction n with
    | zero => intro b h1 h2; omega
    | succ n ih =>
      intro b h1 h2
      unfold k_World_firstBell_b4
      dsimp only
      refine WP_if (p := 23 ≤ b) (by rw [show (23 : Int32) = Int32.ofNat 23 from rfl]; exact i_gei (by omega) (by omega)) (fun q => ?_) (fun q => ?_)
      · have : b = 23 := by omega
        subst this
        exact WP_some rfl
      · have hb : b < 23 := by omega
        have next : ∀ o, aBell a (b + 1) = o → WP (k_World_firstBell_b4 F n c 0 (eB o) (Int32.ofNat b + 1)) (fun r => r = eB (aBell a 23)) := by
          intro o e
          rw [i_s, ← e]
          exact ih (b + 1) (by omega) (by omega)
        refine WP_eq (crd_n rfl (show b < 23 from hb) (by omega)) ?_
        unfold k_World_firstBell_b72 k_World_firstBell_b70
        unfold k_World_firstBell_b72
        refine WP_if (p := ¬ 0 ≤ aBn a b) (c2_eq.trans (bell_not h hb)) (fun q1 => ?_) (fun q1 => ?_)
        · refine next _ ?_
          cases q2 : aBell a b with
          | none => rw [aBell_sn q2, if_neg q1]
          | some f => rw [aBell_ss q2, if_neg (fun z => q1 z.1)]
        · have q1' := Classical.not_not.mp q1
          obtain ⟨t0, t1, t2⟩ := (h.2.2.2.2.2.1 b hb).1 q1'
          cases q2 : aBell a b with
          | none =>
            rw [if_pos (c2_eq.mpr (show eB none = -1 from rfl))]
            refine next (some b) ?_
            rw [aBell_sn q2, if_pos q1']
          | some f =>
            obtain ⟨f1, f2⟩ := aBell_lt q2
            obtain ⟨u0, u1, u2⟩ := (h.2.2.2.2.2.1 f (by omega)).1 f2
            have ef : eB (some f) = Int32.ofNat f := rfl
            have e1 := aBell_ss q2
            rw [ef, if_neg (fun z => by
              have := c2_eq.mp z
              have h3 := i_nn (show f < 2147483648 by omega)
              rw [this] at h3
              exact h3 (by decide))]
            refine WP_eq (crd_n rfl (show b < 23 from hb) (by omega)) (WP_eq (crd_n rfl (show f < 23 by omega) (by omega)) ?_)
            rw [t1, u1]
            refine WP_if c2_lt (fun q3 => ?_) (fun q3 => ?_)
            · exact next (some b) (e1.trans (if_pos ⟨q1', Or.inl q3⟩))
            · refine WP_eq (crd_n rfl (show b < 23 from hb) (by omega)) (WP_eq (crd_n rfl (show f < 23 by omega) (by omega)) ?_)
              rw [t1, u1]
              refine WP_if c2_ne (fun q4 => ?_) (fun q4 => ?_)
              · exact next (some f) (e1.trans (if_neg (fun z => z.2.elim q3 (fun y => q4 y.1))))
              · refine WP_eq (crd_n rfl (show b < 23 from hb) (by omega)) (WP_eq (crd_n rfl (show f < 23 by omega) (by omega)) ?_)
                rw [t2, u2]
                refine WP_if (p := ¬ aBn a b < aBn a f) (by rw [c2_ge, i_nlt]) (fun q5 => ?_) (fun q5 => ?_)
                · exact next (some f) (e1.trans (if_neg (fun z => z.2.elim q3 (fun y => q5 y.2))))
                · exact next (some b) (e1.trans (if_pos ⟨q1', Or.inr ⟨Classical.not_not.mp q4, Classical.not_not.mp q5⟩⟩))
  exact key F 0 (by omega) (by omega)
theorem K_takeBell {c : CS} {a : AA} {v : CV} {b : Nat} (h : RC c a v) (hb : b < 23) (hn : 0 ≤ aBn a b) (ht : (aBt a b).toInt < 1073741824) : WP (k_World_takeBell c 0 (Int32.ofNat b)) (fun c' => RC c' (aHush (aAdd (aI a 1 0 (aBt a b)) 3 0 1) b) v) := by
  obtain ⟨t0, t1, t2⟩ := (h.2.2.2.2.2.1 b hb).1 hn
  unfold k_World_takeBell k_World_takeBell_b0
  refine WP_eq (crd_n rfl (show b < 23 from hb) (by omega)) ?_
  rw [t1]
  have e0 : (0 : Int32).toInt = 0 := by decide
  rw [Int32.le_iff_toInt_le, e0] at t0
  have h1 := RC_now h t0 ht
  refine WP_b (WP_b ?_)
  rw [K_r h1 (F := 3) (cl := 14) (f := 2) (by decide) (by decide)]
  have h2 := RC_I (x := aS (aI a 1 0 (aBt a b)) 3 0 + 1) h1 (F := 3) (cl := 14) (f := 2) (i := 0) (by decide) (by decide)
  exact WP_call (K_hush h2 hb) (fun c' h' => WP_some h')
/-! the letters on the way -/
theorem way_len {c : CS} {a : AA} {v : CV} (h : RC c a v) : (cS c 14 0 15).length = (aWay a).length ∧ (aWay a).length ≤ 128 := by
  have hk := h.2.2.2.2.2.2.2.2.2.2.2.2.2.2.2.2.2.2.2.1
  have := F2_len hk.2.1
  exact ⟨this, by rw [← this]; exact hk.2.2.2.2.1⟩
theorem K_has {c : CS} {a : AA} {v : CV} {k : Int32} (h : RC c a v) : k_World_hasLetter c 0 k = some (aB (decide (0 ≤ k ∧ k.toNatClampNeg < (aWay a).length))) := by
  obtain ⟨h1, h2⟩ := way_len h
  unfold k_World_hasLetter k_World_hasLetter_b0 k_World_hasLetter_b19 k_World_hasLetter_b20 clsz
  rw [h1, if_pos (Or.inl rfl), if_pos (Or.inr rfl)]
  by_cases q : k < 0
  · rw [if_pos (c0_lt.mpr q), decide_eq_false (fun z => absurd z.1 (by rw [i_nle]; exact q))]
    rfl
  · rw [if_neg (fun z => q (c0_lt.mp z))]
    have q' : 0 ≤ k := i_nlt.mp q
    have e := i_of q'
    have hb : k.toNatClampNeg < 2147483648 := by
      have := i_nat q'
      have := Int32.toInt_lt k
      omega
    have ec : xc2 .ge k (Int32.ofNat (aWay a).length) = true ↔ (aWay a).length ≤ k.toNatClampNeg := by
      conv => lhs; rw [e]
      exact i_gei hb (by omega)
    by_cases r : (aWay a).length ≤ k.toNatClampNeg
    · rw [if_pos (ec.mpr r), decide_eq_false (fun z => by omega)]
      rfl
    · rw [if_neg (fun z => r (ec.mp z)), decide_eq_true (⟨q', by omega⟩ : 0 ≤ k ∧ k.toNatClampNeg < (aWay a).length)]
      rfl
/-- a letter is taken off the way -/
theorem K_take15 {c : CS} {a : AA} {n : Nat} {p : AP} {H : List (Nat × Option AL)} {U : Nat → Int32} {N : Nat × Nat} (h : RC c a ((H, U), N)) (hg : (aWay a)[n]? = some p) : ∃ ad, clrem c 14 0 15 (Int32.ofNat n) = some (ad, csS c 14 0 15 ((cS c 14 0 15).eraseIdx n) (cL c 14 0 15) (cT c)) ∧ LRp c ad p ∧ RC (csS c 14 0 15 ((cS c 14 0 15).eraseIdx n) (cL c 14 0 15) (cT c)) (aWayS a ((aWay a).eraseIdx n)) (((ad, some p.2.2) :: H, U), N) ∧ (∀ x, x ∈ H → x.1 ≠ ad) := by
  obtain ⟨w1, w2⟩ := way_len h
  have hn : n < (aWay a).length := by
    rcases Nat.lt_or_ge n (aWay a).length with q | q
    · exact q
    · rw [List.getElem?_eq_none q] at hg
      cases hg
  have hg' := List.getElem?_eq_getElem (show n < (cS c 14 0 15).length by omega)
  have hk : KLt c a H := h.2.2.2.2.2.2.2.2.2.2.2.2.2.2.2.2.2.2.2.1
  obtain ⟨p', hp1, hp2⟩ := F2_get hk.2.1 hg'
  rw [hg] at hp1
  cases hp1
  generalize (cS c 14 0 15)[n] = ad at hg' hp2
  have hp : lsP 14 0 15 := Or.inl ⟨rfl, rfl, rfl⟩
  have hl := len_er hg'
  have hr := KRm_rem (l := (cS c 14 0 15).eraseIdx n) (v' := (((ad, some p.2.2) :: H, U), N)) hp h.2.2.2.2.2.2.2.2.2.2.2.2.2.2.2.2.2.2.2.2.1 rfl (by show _ + (H.length + 1) = _ + H.length; omega)
  have hF : Ck [32 * 14 + 15] 0 c (csS c 14 0 15 ((cS c 14 0 15).eraseIdx n) (cL c 14 0 15) (cT c)) := Ck_S (Or.inl rfl)
  have hs : ((aWay a).eraseIdx n).Pairwise (fun x y => x.1 ≤ y.1) := hk.2.2.2.2.2.2.sublist (List.eraseIdx_sublist _ _)
  have hl2 : KLt (csS c 14 0 15 ((cS c 14 0 15).eraseIdx n) (cL c 14 0 15) (cT c)) (aWayS a ((aWay a).eraseIdx n)) ((ad, some p.2.2) :: H) := KLt_S hp hk (Nat.le_refl _) (fun x => by have := cnt_er (x := x) hg'; rw [cnt_H]; omega) (F2_erase n hk.2.1) hs (by show ((cS c 14 0 15).eraseIdx n).length ≤ 128; omega) (fun s hs => ⟨hk.2.2.1 s hs, hk.2.2.2.2.2.1 s hs⟩) (fun x hx l hl' => by
    rcases List.mem_cons.mp hx with rfl | hx
    · cases hl'
      exact hp2.2.2
    · exact hk.2.2.2.1 x hx l hl')
  refine ⟨ad, clrem_n rfl (by omega) hg', hp2, ⟨KSc_fr hF (by decide) h.1, fun s hs hu => KFr_fr hF (by decide) (h.2.1 s hs hu), fun s hs => KHd_fr hF (by decide) (h.2.2.1 s hs), fun s hs hr => KLd_fr hF (by decide) (h.2.2.2.1 s hs hr), fun s hs hu => KRq_fr hF (by decide) (h.2.2.2.2.1 s hs hu), KBl_fr hF (by decide) h.2.2.2.2.2.1, KDa_fr hF (by decide) h.2.2.2.2.2.2.1, fun s hs => KLw_fr hF (by decide) (h.2.2.2.2.2.2.2.1 s hs), fun s hs => KG_fr hF (by decide) (h.2.2.2.2.2.2.2.2.1 s hs), fun s hs => KPg_fr hF (by decide) (h.2.2.2.2.2.2.2.2.2.1 s hs), fun s hs => KCh_fr hF (by decide) (h.2.2.2.2.2.2.2.2.2.2.1 s hs), fun s hs => KMc_fr hF (by decide) (h.2.2.2.2.2.2.2.2.2.2.2.1 s hs), fun s hs => KPc_fr hF (by decide) (h.2.2.2.2.2.2.2.2.2.2.2.2.1 s hs), fun k hk => KCl_fr hF (by decide) (h.2.2.2.2.2.2.2.2.2.2.2.2.2.1 k hk), fun k hk => KDn_fr hF (by decide) (h.2.2.2.2.2.2.2.2.2.2.2.2.2.2.1 k hk), KAk_fr hF (by decide) h.2.2.2.2.2.2.2.2.2.2.2.2.2.2.2.1, KFc_fr hF (by decide) h.2.2.2.2.2.2.2.2.2.2.2.2.2.2.2.2.1, fun s hs => KId_fr hF (by decide) (h.2.2.2.2.2.2.2.2.2.2.2.2.2.2.2.2.2.1 s hs), fun k hk => KIc_fr hF (by decide) (h.2.2.2.2.2.2.2.2.2.2.2.2.2.2.2.2.2.2.1 k hk), hl2, hr, h.2.2.2.2.2.2.2.2.2.2.2.2.2.2.2.2.2.2.2.2.2.1, h.2.2.2.2.2.2.2.2.2.2.2.2.2.2.2.2.2.2.2.2.2.2⟩, fun x hx z => ?_⟩
  have h1 := (hk.1 ad).1
  have h2 : 0 < (H.map Prod.fst).count ad := List.count_pos_iff.mpr (List.mem_map.mpr ⟨x, hx, z⟩)
  have h3 : 0 < (cS c 14 0 15).count ad := List.count_pos_iff.mpr (List.mem_of_getElem? hg')
  unfold nC at h1
  omega
theorem kb1 {b : Bool} : xc0 .eq (aB b) = true ↔ b = false := by
  cases b
  · exact ⟨fun _ => rfl, fun _ => by decide⟩
  · exact ⟨fun z => absurd z (by decide), fun z => by cases z⟩
theorem K_drop {c : CS} {a : AA} {k : Int32} {H : List (Nat × Option AL)} {U : Nat → Int32} {N : Nat × Nat} {p : AP} (h : RC c a ((H, U), N)) (h0 : 0 ≤ k) (hg : (aWay a)[k.toNatClampNeg]? = some p) : WP (k_World_dropLetter c 0 k) (fun c' => RC c' (aAdd (aWayS a ((aWay a).eraseIdx k.toNatClampNeg)) 22 0 1) ((H, U), N)) := by
  obtain ⟨w1, w2⟩ := way_len h
  have hn : k.toNatClampNeg < (aWay a).length := by
    rcases Nat.lt_or_ge k.toNatClampNeg (aWay a).length with q | q
    · exact q
    · rw [List.getElem?_eq_none q] at hg
      cases hg
  unfold k_World_dropLetter k_World_dropLetter_b0 k_World_dropLetter_b23
  rw [K_has h, decide_eq_true (⟨h0, hn⟩ : 0 ≤ k ∧ k.toNatClampNeg < (aWay a).length)]
  refine WP_b ?_
  rw [if_neg (by decide)]
  obtain ⟨ad, e1, e2, e3, _⟩ := K_take15 h hg
  rw [← i_of h0] at e1
  rw [e1]
  exact WP_b (WP_call (K_lose e3) (fun c' h' => WP_some h'))
theorem K_double {F : Nat} {c : CS} {a : AA} {k : Int32} {H : List (Nat × Option AL)} {U : Nat → Int32} {N : Nat × Nat} {p : AP} (hF : 130 ≤ F) (h : RC c a ((H, U), N)) (hH : H.length ≤ 5) (h0 : 0 ≤ k) (hg : (aWay a)[k.toNatClampNeg]? = some p) (w : wfL p.2.2) : WP (k_World_doubleLetter F c 0 k) (fun c' => RC c' (A_fly a p.2.2 (aNow a + aS a 23 (16 * (p.2.2.1 2) + p.2.2.1 3).toNatClampNeg)) ((H, U), N)) := by
  obtain ⟨w1, w2⟩ := way_len h
  have hn : k.toNatClampNeg < (aWay a).length := by
    rcases Nat.lt_or_ge k.toNatClampNeg (aWay a).length with q | q
    · exact q
    · rw [List.getElem?_eq_none q] at hg
      cases hg
  unfold k_World_doubleLetter k_World_doubleLetter_b0 k_World_doubleLetter_b57
  rw [K_has h, decide_eq_true (⟨h0, hn⟩ : 0 ≤ k ∧ k.toNatClampNeg < (aWay a).length)]
  refine WP_b ?_
  rw [if_neg (by decide)]
  have hg' := List.getElem?_eq_getElem (show k.toNatClampNeg < (cS c 14 0 15).length by omega)
  obtain ⟨p', hp1, hp2⟩ := F2_get h.2.2.2.2.2.2.2.2.2.2.2.2.2.2.2.2.2.2.2.1.2.1 hg'
  rw [hg] at hp1
  cases hp1
  generalize (cS c 14 0 15)[k.toNatClampNeg] = ad at hg' hp2
  rw [clget_n (i_of h0) (by omega) hg']
  refine WP_b (WP_call (K_blank h (by omega)) (fun q hq => ?_))
  obtain ⟨h1, _, hw⟩ := hq
  have hg2 : (cS q.2 14 0 15)[k.toNatClampNeg]? = some ad := by rw [hw]; exact hg'
  have hne : ad ≠ q.1 := by
    intro z
    have l1 := (h1.2.2.2.2.2.2.2.2.2.2.2.2.2.2.2.2.2.2.2.1.1 q.1).1
    have m1 : 0 < (((q.1, (none : Option AL)) :: H).map Prod.fst).count q.1 := List.count_pos_iff.mpr (List.mem_map.mpr ⟨_, List.mem_cons_self, rfl⟩)
    have m2 : 0 < (cS q.2 14 0 15).count q.1 := List.count_pos_iff.mpr (z ▸ List.mem_of_getElem? hg2)
    unfold nC at l1
    have l1' : (cS q.2 14 0 15).count q.1 + (cS q.2 14 0 16).count q.1 + sumN (fun s => (cS q.2 13 s 7).count q.1) 7 + (((q.1, (none : Option AL)) :: H).map Prod.fst).count q.1 ≤ 1 := l1
    omega
  obtain ⟨p2, hp3, hp4⟩ := F2_get h1.2.2.2.2.2.2.2.2.2.2.2.2.2.2.2.2.2.2.2.1.2.1 hg2
  rw [hg] at hp3
  cases hp3
  refine WP_call (K_copy h1 hp4.2.2 hne) (fun c3 hc3 => ?_)
  obtain ⟨h3, h8⟩ := hc3
  have e2 : cI c3 8 ad 2 0 = p.2.2.1 2 := ((h8 ad 2 hne).1 0).trans (hp4.2.2.1 2 (by simp))
  have e3 : cI c3 8 ad 3 0 = p.2.2.1 3 := ((h8 ad 3 hne).1 0).trans (hp4.2.2.1 3 (by simp))
  rw [e2, e3, K_delay h3 w]
  refine WP_b ?_
  rw [K_r h3 (F := 1) (cl := 14) (f := 0) (by decide) (by decide)]
  exact WP_call (K_launch hF h3) (fun c' h' => WP_some h')
theorem K_defer {F : Nat} {c : CS} {a : AA} {k n : Int32} {H : List (Nat × Option AL)} {U : Nat → Int32} {N : Nat × Nat} {p : AP} (hF : 130 ≤ F) (h : RC c a ((H, U), N)) (h0 : 0 ≤ k) (hg : (aWay a)[k.toNatClampNeg]? = some p) : WP (k_World_deferLetter F c 0 k n) (fun c' => RC c' (aWayS (aAdd a 2 0 1) (aIns (p.1 + n, aS a 2 0, p.2.2) ((aWay a).eraseIdx k.toNatClampNeg))) ((H, U), N)) := by
  obtain ⟨w1, w2⟩ := way_len h
  have hn : k.toNatClampNeg < (aWay a).length := by
    rcases Nat.lt_or_ge k.toNatClampNeg (aWay a).length with q | q
    · exact q
    · rw [List.getElem?_eq_none q] at hg
      cases hg
  unfold k_World_deferLetter k_World_deferLetter_b0 k_World_deferLetter_b41
  rw [K_has h, decide_eq_true (⟨h0, hn⟩ : 0 ≤ k ∧ k.toNatClampNeg < (aWay a).length)]
  refine WP_b ?_
  rw [if_neg (by decide)]
  obtain ⟨ad, e1, e2, e3, _⟩ := K_take15 h hg
  rw [← i_of h0] at e1
  rw [e1]
  refine WP_b (WP_b ?_)
  dsimp only
  have hw : aWay (aWayS a ((aWay a).eraseIdx k.toNatClampNeg)) = (aWay a).eraseIdx k.toNatClampNeg := rfl
  have hlen : ((aWay a).eraseIdx k.toNatClampNeg).length < 128 := by
    rw [List.length_eraseIdx, if_pos hn]
    omega
  have e21 : cI (csS c 14 0 15 ((cS c 14 0 15).eraseIdx k.toNatClampNeg) (cL c 14 0 15) (cT c)) 14 0 3 0 = aS (aWayS a ((aWay a).eraseIdx k.toNatClampNeg)) 21 0 := K_r e3 (F := 21) (cl := 14) (f := 3) (by decide) (by decide)
  have e21' : aS (aWayS a ((aWay a).eraseIdx k.toNatClampNeg)) 21 0 = aS a 21 0 := rfl
  rw [e21, e21']
  have h4 := RC_I (x := aS a 21 0 - 1) e3 (F := 21) (cl := 14) (f := 3) (i := 0) (by decide) (by decide)
  have et : cI (csI (csS c 14 0 15 ((cS c 14 0 15).eraseIdx k.toNatClampNeg) (cL c 14 0 15) (cT c)) 14 0 3 0 (aS a 21 0 - 1)) 8 ad 0 0 = p.1 := (csI_cl (by decide)).trans (((csS_8 (by decide)).1 0).trans e2.1)
  rw [et]
  have ef : A_fly (aI (aWayS a ((aWay a).eraseIdx k.toNatClampNeg)) 21 0 (aS a 21 0 - 1)) p.2.2 (p.1 + n) = aWayS (aAdd a 2 0 1) (aIns (p.1 + n, aS a 2 0, p.2.2) ((aWay a).eraseIdx k.toNatClampNeg)) := by
    unfold A_fly
    rw [if_neg (show ¬ 128 ≤ (aWay (aI (aWayS a ((aWay a).eraseIdx k.toNatClampNeg)) 21 0 (aS a 21 0 - 1))).length from fun z => absurd (show 128 ≤ ((aWay a).eraseIdx k.toNatClampNeg).length from z) (by omega))]
    have e0 : aS (aI (aWayS a ((aWay a).eraseIdx k.toNatClampNeg)) 21 0 (aS a 21 0 - 1)) 2 0 = aS a 2 0 := aS_If (by decide)
    rw [e0]
    refine Prod.ext (Prod.ext ?_ rfl) rfl
    funext f i
    show (if f = 21 ∧ i = 0 then aS (aAdd (aI (aWayS a ((aWay a).eraseIdx k.toNatClampNeg)) 21 0 (aS a 21 0 - 1)) 2 0 1) 21 0 + 1 else if f = 2 ∧ i = 0 then aS (aI (aWayS a ((aWay a).eraseIdx k.toNatClampNeg)) 21 0 (aS a 21 0 - 1)) 2 0 + 1 else if f = 21 ∧ i = 0 then aS a 21 0 - 1 else a.1.1 f i) = (if f = 2 ∧ i = 0 then aS a 2 0 + 1 else a.1.1 f i)
    rw [e0]
    by_cases q : f = 21 ∧ i = 0
    · obtain ⟨rfl, rfl⟩ := q
      rw [if_pos ⟨rfl, rfl⟩, if_neg (by omega)]
      have e1 : aS (aAdd (aI (aWayS a ((aWay a).eraseIdx k.toNatClampNeg)) 21 0 (aS a 21 0 - 1)) 2 0 1) 21 0 = aS a 21 0 - 1 := (aS_If (by decide)).trans rfl
      rw [e1]
      exact Int32.sub_add_cancel _ _
    · rw [if_neg q, if_neg q]
  rw [← ef]
  exact WP_call (K_launch hF h4) (fun c' h' => WP_some h')
/-- the first letter, if there is one -/
theorem K_first {c : CS} {a : AA} {v : CV} (h : RC c a v) : (aWay a = [] ∧ k_World_firstLetter c 0 = some none) ∨ ∃ p r ad, aWay a = p :: r ∧ (cS c 14 0 15)[0]? = some ad ∧ LRp c ad p ∧ k_World_firstLetter c 0 = some (some ad) := by
  obtain ⟨w1, w2⟩ := way_len h
  unfold k_World_firstLetter k_World_firstLetter_b0 k_World_firstLetter_b25
  cases q : aWay a with
  | nil =>
    left
    rw [q] at w1
    have e : cS c 14 0 15 = [] := List.eq_nil_of_length_eq_zero w1
    rw [if_neg (fun z => clemp_e.mp z e)]
    exact ⟨rfl, rfl⟩
  | cons p r =>
    right
    rw [q, List.length_cons] at w1
    have hg' := List.getElem?_eq_getElem (show 0 < (cS c 14 0 15).length by omega)
    obtain ⟨p', hp1, hp2⟩ := F2_get h.2.2.2.2.2.2.2.2.2.2.2.2.2.2.2.2.2.2.2.1.2.1 hg'
    rw [q] at hp1
    simp only [List.getElem?_cons_zero, Option.some.injEq] at hp1
    subst hp1
    refine ⟨p, r, _, rfl, hg', hp2, ?_⟩
    rw [if_pos (clemp_e.mpr (fun z => by rw [z] at w1; simp at w1)), clget_n (n := 0) (j := 0) rfl (by omega) hg']
    rfl
theorem K_before {c : CS} {a : AA} {v : CV} {ad b : Nat} {p : AP} (h : RC c a v) (hl : LRp c ad p) (hb : b < 23) (hn : 0 ≤ aBn a b) : k_World_isBefore c 0 ad (Int32.ofNat b) = some (aB (decide (p.1 < aBt a b ∨ (p.1 = aBt a b ∧ p.2.1 < aBn a b)))) := by
  obtain ⟨t0, t1, t2⟩ := (h.2.2.2.2.2.1 b hb).1 hn
  unfold k_World_isBefore k_World_isBefore_b0 k_World_isBefore_b39 k_World_isBefore_b43 k_World_isBefore_b44
  rw [crd_n rfl (show b < 23 from hb) (by omega), t1, hl.1, if_pos (Or.inr rfl), if_pos (Or.inl rfl), Option.bind_some]
  by_cases q1 : p.1 < aBt a b
  · rw [if_pos (c2_lt.mpr q1), decide_eq_true (Or.inl q1)]
    rfl
  · rw [if_neg (fun z => q1 (c2_lt.mp z)), Option.bind_some]
    by_cases q2 : p.1 = aBt a b
    · rw [if_neg (fun z => c2_ne.mp z q2), crd_n rfl (show b < 23 from hb) (by omega), t2, hl.2.1, Option.bind_some]
      by_cases q3 : p.2.1 < aBn a b
      · rw [if_neg (fun z => (i_nlt.mpr (c2_ge.mp z)) q3), decide_eq_true (Or.inr ⟨q2, q3⟩)]
        rfl
      · rw [if_pos (c2_ge.mpr (i_nlt.mp q3)), decide_eq_false (fun z => z.elim q1 (fun y => q3 y.2))]
        rfl
    · rw [if_pos (c2_ne.mpr q2), decide_eq_false (fun z => z.elim q1 (fun y => q2 y.1))]
      rfl
/-- the first letter is taken: it is in the hand -/
theorem K_takeFirst {c : CS} {a : AA} {p : AP} {r : List AP} {ad : Nat} {H : List (Nat × Option AL)} {U : Nat → Int32} {N : Nat × Nat} (h : RC c a ((H, U), N)) (hw : aWay a = p :: r) (hg : (cS c 14 0 15)[0]? = some ad) (h0 : 0 ≤ p.1.toInt) (h1 : p.1.toInt < 1073741824) : WP (k_World_takeFirstLetter c 0) (fun c' => RC c' (aWayS (aAdd (aI a 1 0 p.1) 3 0 1) r) (((ad, some p.2.2) :: H, U), N)) := by
  obtain ⟨w1, w2⟩ := way_len h
  unfold k_World_takeFirstLetter k_World_takeFirstLetter_b0 k_World_takeFirstLetter_b38
  have hne : cS c 14 0 15 ≠ [] := fun z => by rw [z] at hg; simp at hg
  have ec : ¬ xc0 .ne (clemp c 14 0 15) = true := by
    rw [c0_ne]
    unfold clemp
    rw [if_neg (fun z => hne (List.eq_nil_of_length_eq_zero z))]
    exact fun z => z rfl
  rw [if_neg ec]
  obtain ⟨ad', e1, e2, e3, _⟩ := K_take15 (n := 0) h (by rw [hw]; rfl)
  have e1' := e1
  unfold clrem at e1'
  rw [clget_n (n := 0) rfl (by omega) hg, Option.bind_some] at e1'
  have ea : ad = ad' := congrArg Prod.fst (Option.some.inj e1')
  subst ea
  have e1' : clrem c 14 0 15 0 = some (ad, csS c 14 0 15 ((cS c 14 0 15).eraseIdx 0) (cL c 14 0 15) (cT c)) := e1
  rw [e1']
  refine WP_b (WP_b ?_)
  have et : cI (csS c 14 0 15 ((cS c 14 0 15).eraseIdx 0) (cL c 14 0 15) (cT c)) 8 ad 0 0 = p.1 := ((csS_8 (by decide)).1 0).trans e2.1
  rw [et]
  have h4 := RC_now e3 h0 h1
  refine WP_b ?_
  rw [K_r h4 (F := 3) (cl := 14) (f := 2) (by decide) (by decide)]
  have h5 := RC_I (x := aS (aI (aWayS a ((aWay a).eraseIdx 0)) 1 0 p.1) 3 0 + 1) h4 (F := 3) (cl := 14) (f := 2) (i := 0) (by decide) (by decide)
  refine WP_some ?_
  have ee : (aWay a).eraseIdx 0 = r := by rw [hw]; rfl
  rw [ee] at h5
  exact h5
