/-! the net: parts, draws, letters sent -/
theorem xor1 {p q : Int32} : (p ^^^ q) &&& 1 = (p &&& 1) ^^^ (q &&& 1) := by
  rw [← Int32.toBitVec_inj]
  simp only [Int32.toBitVec_and, Int32.toBitVec_xor]
  apply BitVec.eq_of_getLsbD_eq
  intro i hi
  simp only [BitVec.getLsbD_and, BitVec.getLsbD_xor]
  cases p.toBitVec.getLsbD i <;> cases q.toBitVec.getLsbD i <;> cases (1 : Int32).toBitVec.getLsbD i <;> rfl
theorem K_parted {c : CS} {a : AA} {v : CV} {x y : Int32} (h : RC c a v) : k_World_areParted c 0 x y = some (aB (A_parted a x y)) := by
  unfold k_World_areParted k_World_areParted_b0 k_World_areParted_b23 A_parted
  rw [K_r h (F := 24) (cl := 14) (f := 5) (by decide) (by decide), xor1]
  by_cases q : (aS a 24 0 >>> (x &&& 31)) &&& 1 = (aS a 24 0 >>> (y &&& 31)) &&& 1
  · rw [if_pos (c0_eq.mpr (Int32.xor_eq_zero_iff.mpr q)), decide_eq_true q, if_pos (Or.inl rfl)]
    rfl
  · rw [if_neg (fun z => q (Int32.xor_eq_zero_iff.mp (c0_eq.mp z))), decide_eq_false q, if_pos (Or.inr rfl)]
    rfl
theorem K_spz {a : AA} (h : nwOK a) : ¬ (aS a 27 0 + 1).toInt64 = 0 ∧ 1 ≤ aS a 27 0 + 1 := by
  obtain ⟨_, _, _, _, h1, h2⟩ := h
  have e1 : (1 : Int32).toInt = 1 := by decide
  have e : (aS a 27 0 + 1).toInt = (aS a 27 0).toInt + 1 := by
    rw [Int32.toInt_add, e1, Int.bmod_def]
    omega
  refine ⟨fun z => ?_, by rw [Int32.le_iff_toInt_le, e, e1]; omega⟩
  have : ((aS a 27 0 + 1).toInt64).toInt = 0 := by rw [z]; decide
  rw [Int32.toInt_toInt64, e] at this
  omega
theorem RC_J28 {c : CS} {a : AA} {v : CV} {x : Int64} (h : RC c a v) : RC (csJ c 14 0 9 0 x) (aJ a 28 0 x) v := by
  have hF : Ck [32 * 14 + 9] 0 c (csJ c 14 0 9 0 x) := Ck_J (Or.inl rfl)
  have hd : KDa (csJ c 14 0 9 0 x) (aJ a 28 0 x) := by
    obtain ⟨d1, d2, d3, d4⟩ := h.2.2.2.2.2.2.1
    refine ⟨d1, d2, fun s hs => ?_, rfl⟩
    have e1 : cJ (csJ c 14 0 9 0 x) 14 0 14 s = cJ c 14 0 14 s := rfl
    have e2 : (aJ a 28 0 x).1.2 84 s = a.1.2 84 s := rfl
    rw [e1, e2]
    exact d3 s hs
  exact ⟨h.1, fun s hs hu => KFr_fr hF (by decide) (h.2.1 s hs hu), fun s hs => KHd_fr hF (by decide) (h.2.2.1 s hs), fun s hs hr => KLd_fr hF (by decide) (h.2.2.2.1 s hs hr), fun s hs hu => KRq_fr hF (by decide) (h.2.2.2.2.1 s hs hu), KBl_fr hF (by decide) h.2.2.2.2.2.1, hd, fun s hs => KLw_fr hF (by decide) (h.2.2.2.2.2.2.2.1 s hs), fun s hs => KG_fr hF (by decide) (h.2.2.2.2.2.2.2.2.1 s hs), fun s hs => KPg_fr hF (by decide) (h.2.2.2.2.2.2.2.2.2.1 s hs), fun s hs => KCh_fr hF (by decide) (h.2.2.2.2.2.2.2.2.2.2.1 s hs), fun s hs => KMc_fr hF (by decide) (h.2.2.2.2.2.2.2.2.2.2.2.1 s hs), fun s hs => KPc_fr hF (by decide) (h.2.2.2.2.2.2.2.2.2.2.2.2.1 s hs), fun k hk => KCl_fr hF (by decide) (h.2.2.2.2.2.2.2.2.2.2.2.2.2.1 k hk), fun k hk => KDn_fr hF (by decide) (h.2.2.2.2.2.2.2.2.2.2.2.2.2.2.1 k hk), KAk_fr hF (by decide) h.2.2.2.2.2.2.2.2.2.2.2.2.2.2.2.1, KFc_fr hF (by decide) h.2.2.2.2.2.2.2.2.2.2.2.2.2.2.2.2.1, fun s hs => KId_fr hF (by decide) (h.2.2.2.2.2.2.2.2.2.2.2.2.2.2.2.2.2.1 s hs), fun k hk => KIc_fr hF (by decide) (h.2.2.2.2.2.2.2.2.2.2.2.2.2.2.2.2.2.2.1 k hk), KLt_fr hF rfl (by decide) h.2.2.2.2.2.2.2.2.2.2.2.2.2.2.2.2.2.2.2.1, KRm_fr hF rfl (by decide) h.2.2.2.2.2.2.2.2.2.2.2.2.2.2.2.2.2.2.2.2.1, h.2.2.2.2.2.2.2.2.2.2.2.2.2.2.2.2.2.2.2.2.2.1, h.2.2.2.2.2.2.2.2.2.2.2.2.2.2.2.2.2.2.2.2.2.2⟩
theorem K_drawn {c : CS} {a : AA} {v : CV} {m : Int32} (h : RC c a v) (hm : ¬ m.toInt64 = 0) (h1 : 1 ≤ m) : WP (k_World_drawn c 0 m) (fun p => p.1 = (A_draw a m).1 ∧ RC p.2 (A_draw a m).2 v) := by
  unfold k_World_drawn k_World_drawn_b0 k_World_drawn_b36
  refine WP_b ?_
  rw [if_pos (c2_ge.mpr h1), if_neg hm, h.2.2.2.2.2.2.1.2.2.2]
  refine WP_some ⟨?_, RC_J28 h⟩
  have e : ∀ y : Int64, cJ (csJ c 14 0 9 0 y) 14 0 9 0 = y := fun _ => rfl
  have e33 : ((33 : Int32).toInt64.toUInt64 &&& Int64.toUInt64 63) = 33 := by decide
  rw [e, e33]
  rfl
/-- the delay of a link -/
theorem K_delay {c : CS} {a : AA} {v : CV} {l : AL} (h : RC c a v) (w : wfL l) : crd c 14 0 12 (l.1 2 * 16 + l.1 3) = some (aS a 23 (16 * (l.1 2) + l.1 3).toNatClampNeg) := by
  obtain ⟨p, e1, p1⟩ := wf_end w.1
  obtain ⟨q, e2, q1⟩ := wf_end w.2
  rw [e1, e2, show Int32.ofNat p * 16 + Int32.ofNat q = Int32.ofNat (p * 16 + q) from i_ma, i_16, i_cl (by omega), crd_n rfl (show p * 16 + q < 256 by omega) (by omega), h.2.2.2.2.2.2.1.1 _ (by omega), Nat.mul_comm p 16]
theorem aWay_draw {a : AA} {m : Int32} : aWay (A_draw a m).2 = aWay a := rfl
theorem nwOK_fly {a : AA} {l : AL} {t : Int32} (h : nwOK a) : nwOK (A_fly a l t) := by
  have e : ∀ {f i : Nat}, f ≠ 2 ∧ f ≠ 21 ∧ f ≠ 22 → aS (A_fly a l t) f i = aS a f i := fun q => aS_fly q
  unfold nwOK aNow at h ⊢
  simp only [e (f := 1) (by decide), e (f := 72) (by decide), e (f := 71) (by decide), e (f := 27) (by decide)]
  exact h
theorem RC_swap {c : CS} {a : AA} {x y : Nat × Option AL} {H : List (Nat × Option AL)} {U : Nat → Int32} {N : Nat × Nat} (h : RC c a ((x :: y :: H, U), N)) : RC c a ((y :: x :: H, U), N) := by
  have hF : Ck [] 0 c c := Ck_r
  have hk : KLt c a (x :: y :: H) := h.2.2.2.2.2.2.2.2.2.2.2.2.2.2.2.2.2.2.2.1
  obtain ⟨x1, x2⟩ := x
  obtain ⟨y1, y2⟩ := y
  have hc : ∀ z, (((y1, y2) :: (x1, x2) :: H).map Prod.fst).count z = (((x1, x2) :: (y1, y2) :: H).map Prod.fst).count z := by
    intro z
    rw [cnt_H, cnt_H, cnt_H, cnt_H]
    omega
  have hk2 : KLt c a ((y1, y2) :: (x1, x2) :: H) := ⟨fun z => by
    have := hk.1 z
    unfold nC at this ⊢
    rw [hc z]
    exact this, hk.2.1, hk.2.2.1, fun z hz => hk.2.2.2.1 z (by
      rcases List.mem_cons.mp hz with rfl | hz
      · exact List.mem_cons_of_mem _ List.mem_cons_self
      · rcases List.mem_cons.mp hz with rfl | hz
        · exact List.mem_cons_self
        · exact List.mem_cons_of_mem _ (List.mem_cons_of_mem _ hz)), hk.2.2.2.2⟩
  have hr : KRm c (((y1, y2) :: (x1, x2) :: H, U), N) := by
    obtain ⟨r1, r2, r3, r4⟩ := h.2.2.2.2.2.2.2.2.2.2.2.2.2.2.2.2.2.2.2.2.1
    exact ⟨r1, r2, r3, r4⟩
  exact ⟨KSc_fr hF (by decide) h.1, fun s hs hu => KFr_fr hF (by decide) (h.2.1 s hs hu), fun s hs => KHd_fr hF (by decide) (h.2.2.1 s hs), fun s hs hr => KLd_fr hF (by decide) (h.2.2.2.1 s hs hr), fun s hs hu => KRq_fr hF (by decide) (h.2.2.2.2.1 s hs hu), KBl_fr hF (by decide) h.2.2.2.2.2.1, KDa_fr hF (by decide) h.2.2.2.2.2.2.1, fun s hs => KLw_fr hF (by decide) (h.2.2.2.2.2.2.2.1 s hs), fun s hs => KG_fr hF (by decide) (h.2.2.2.2.2.2.2.2.1 s hs), fun s hs => KPg_fr hF (by decide) (h.2.2.2.2.2.2.2.2.2.1 s hs), fun s hs => KCh_fr hF (by decide) (h.2.2.2.2.2.2.2.2.2.2.1 s hs), fun s hs => KMc_fr hF (by decide) (h.2.2.2.2.2.2.2.2.2.2.2.1 s hs), fun s hs => KPc_fr hF (by decide) (h.2.2.2.2.2.2.2.2.2.2.2.2.1 s hs), fun k hk => KCl_fr hF (by decide) (h.2.2.2.2.2.2.2.2.2.2.2.2.2.1 k hk), fun k hk => KDn_fr hF (by decide) (h.2.2.2.2.2.2.2.2.2.2.2.2.2.2.1 k hk), KAk_fr hF (by decide) h.2.2.2.2.2.2.2.2.2.2.2.2.2.2.2.1, KFc_fr hF (by decide) h.2.2.2.2.2.2.2.2.2.2.2.2.2.2.2.2.1, fun s hs => KId_fr hF (by decide) (h.2.2.2.2.2.2.2.2.2.2.2.2.2.2.2.2.2.1 s hs), fun k hk => KIc_fr hF (by decide) (h.2.2.2.2.2.2.2.2.2.2.2.2.2.2.2.2.2.2.1 k hk), hk2, hr, h.2.2.2.2.2.2.2.2.2.2.2.2.2.2.2.2.2.2.2.2.2.1, h.2.2.2.2.2.2.2.2.2.2.2.2.2.2.2.2.2.2.2.2.2.2⟩
theorem K_post {F : Nat} {c : CS} {a : AA} {ad : Nat} {l : AL} {H : List (Nat × Option AL)} {U : Nat → Int32} {N : Nat × Nat} (hF : 130 ≤ F) (h : RC c a (((ad, some l) :: H, U), N)) (w : wfL l) (hH : H.length ≤ 5) : WP (k_World_post F c 0 ad) (fun c' => RC c' (A_sendOut a l) ((H, U), N)) := by
  have hlr : LR c ad l := RC_hand h List.mem_cons_self
  have e2 : cI c 8 ad 2 0 = l.1 2 := hlr.1 2 (by simp)
  have e3 : cI c 8 ad 3 0 = l.1 3 := hlr.1 3 (by simp)
  unfold k_World_post k_World_post_b0 A_sendOut
  rw [e2, e3, K_parted h]
  refine WP_b ?_
  by_cases qp : A_parted a (l.1 2) (l.1 3) = true
  · rw [qp, if_neg (by decide), if_pos rfl]
    exact WP_call (K_lose h) (fun c' h' => WP_some h')
  · have qp' : A_parted a (l.1 2) (l.1 3) = false := by simpa using qp
    rw [qp', if_pos (by decide), if_neg (by decide), K_delay h w]
    refine WP_b ?_
    rw [K_r h (F := 25) (cl := 14) (f := 6) (by decide) (by decide), K_r h (F := 26) (cl := 14) (f := 7) (by decide) (by decide), K_r h (F := 27) (cl := 14) (f := 8) (by decide) (by decide), K_r h (F := 1) (cl := 14) (f := 0) (by decide) (by decide)]
    have noisy : ¬ (aS a 25 0 = 0 ∧ aS a 26 0 = 0 ∧ aS a 27 0 = 0) → WP (k_World_post_b72 F c 0 ad (aS a 1 0 + aS a 23 (16 * (l.1 2) + l.1 3).toNatClampNeg)) (fun c' => RC c' (if aS a 25 0 = 0 ∧ aS a 26 0 = 0 ∧ aS a 27 0 = 0 then A_fly a l (aNow a + aS a 23 (16 * (l.1 2) + l.1 3).toNatClampNeg)
      else if (A_draw a 1000).1 < aS a 25 0 then aAdd (A_draw a 1000).2 22 0 1
      else
        let late := aNow a + aS a 23 (16 * (l.1 2) + l.1 3).toNatClampNeg
        let r2 := A_draw (A_draw a 1000).2 1000
        let r3 := A_draw r2.2 (aS a 27 0 + 1)
        let a4 := A_fly r3.2 l (late + r3.1)
        if r2.1 < aS a 26 0 then A_fly (A_draw a4 (aS a 27 0 + 1)).2 l (late + (A_draw a4 (aS a 27 0 + 1)).1) else a4) ((H, U), N)) := by
      intro qn
      rw [if_neg qn]
      unfold k_World_post_b72
      refine WP_call (K_drawn h (by decide) (by decide)) (fun p1 hp1 => ?_)
      obtain ⟨d1, h1⟩ := hp1
      rw [d1, K_r h1 (F := 25) (cl := 14) (f := 6) (by decide) (by decide)]
      refine WP_if (p := ¬ (A_draw a 1000).1 < aS a 25 0) (by rw [c2_ge, i_nlt]; exact Iff.rfl) (fun q1 => ?_) (fun q1 => ?_)
      · rw [if_neg q1]
        dsimp only
        refine WP_call (K_drawn h1 (by decide) (by decide)) (fun p2 hp2 => ?_)
        obtain ⟨d2, h2⟩ := hp2
        rw [d2, K_r h2 (F := 26) (cl := 14) (f := 7) (by decide) (by decide)]
        have e27 : aS (A_draw (A_draw a 1000).2 1000).2 27 0 = aS a 27 0 := rfl
        obtain ⟨s1, s2⟩ := K_spz h2.2.2.2.2.2.2.2.2.2.2.2.2.2.2.2.2.2.2.2.2.2.2
        rw [e27] at s1 s2
        refine WP_if (p := ¬ (A_draw (A_draw a 1000).2 1000).1 < aS a 26 0) (by rw [c2_ge, i_nlt]; exact Iff.rfl) (fun q2 => ?_) (fun q2 => ?_)
        · rw [if_neg q2]
          unfold k_World_post_b111 k_World_post_b159 k_World_post_b172 k_World_post_b212
          rw [if_neg (by decide), if_pos rfl, K_r h2 (F := 27) (cl := 14) (f := 8) (by decide) (by decide), e27]
          refine WP_call (K_drawn h2 s1 s2) (fun p3 hp3 => ?_)
          obtain ⟨d3, h3⟩ := hp3
          rw [d3]
          refine WP_call (K_launch hF h3) (fun p4 h4 => ?_)
          rw [if_pos rfl]
          exact WP_some h4
        · rw [if_pos (Classical.not_not.mp q2)]
          unfold k_World_post_b111
          rw [if_pos (by decide)]
          have h2' : RC p2.2 (A_draw (A_draw a 1000).2 1000).2 ((((ad, some l) :: H), U), N) := h2
          refine K_blankW h2' (by rw [List.length_cons]; omega) (fun b c' h' hn _ => ?_) rfl
          unfold k_World_post_b159
          rw [if_neg (by simp)]
          refine WP_b ?_
          have hb : LR c' ad l := RC_hand h' (List.mem_cons_of_mem _ List.mem_cons_self)
          refine WP_call (K_copy h' hb (hn _ List.mem_cons_self)) (fun c3 hc3 => ?_)
          obtain ⟨h3, _⟩ := hc3
          have h3' : RC c3 (A_draw (A_draw a 1000).2 1000).2 (((ad, some l) :: (b, some l) :: H, U), N) := RC_swap h3
          unfold k_World_post_b172 k_World_post_b212
          rw [K_r h3' (F := 27) (cl := 14) (f := 8) (by decide) (by decide), e27]
          refine WP_call (K_drawn h3' s1 s2) (fun p3 hp3 => ?_)
          obtain ⟨d3, h4⟩ := hp3
          rw [d3]
          refine WP_call (K_launch hF h4) (fun p4 h5 => ?_)
          rw [if_neg (by simp), K_r h5 (F := 27) (cl := 14) (f := 8) (by decide) (by decide), aS_fly (by decide)]
          have e27' : aS (A_draw (A_draw (A_draw a 1000).2 1000).2 (aS a 27 0 + 1)).2 27 0 = aS a 27 0 := rfl
          rw [e27']
          refine WP_call (K_drawn h5 s1 s2) (fun p5 hp5 => ?_)
          obtain ⟨d5, h6⟩ := hp5
          rw [d5]
          exact WP_b (WP_call (K_launch hF h6) (fun p7 h7 => WP_some h7))
      · rw [if_pos (Classical.not_not.mp q1)]
        refine WP_call (K_lose h1) (fun c' h' => WP_some h')
    refine WP_if c0_ne (fun q1 => ?_) (fun q1 => ?_)
    · exact noisy (fun z => q1 z.1)
    · refine WP_if c0_ne (fun q2 => ?_) (fun q2 => ?_)
      · exact noisy (fun z => q2 z.2.1)
      · refine WP_if c0_ne (fun q3 => ?_) (fun q3 => ?_)
        · exact noisy (fun z => q3 z.2.2)
        · rw [if_pos ⟨Classical.not_not.mp q1, Classical.not_not.mp q2, Classical.not_not.mp q3⟩]
          exact WP_call (K_launch hF h) (fun c' h' => WP_some h')
/-! alarms and syncs -/
/-- the next number that is made is one, also behind so many -/
def mdOK (a : AA) (k : Nat) : Prop := ∃ m : Nat, aS a 2 0 = Int32.ofNat m ∧ m + k < 2147483648
/-- not more than so many numbers are made -/
def MD (k : Nat) (a b : AA) : Prop := ∀ m : Nat, aS a 2 0 = Int32.ofNat m → ∃ n, n ≤ k ∧ aS b 2 0 = Int32.ofNat (m + n)
theorem MD_e {a b : AA} (h : aS b 2 0 = aS a 2 0) : MD 0 a b := fun m hm => ⟨0, Nat.le_refl _, h.trans hm⟩
theorem MD_t {k j : Nat} {a b c : AA} (h : MD k a b) (h' : MD j b c) : MD (k + j) a c := by
  intro m hm
  obtain ⟨n, n1, n2⟩ := h m hm
  obtain ⟨p, p1, p2⟩ := h' _ n2
  exact ⟨n + p, by omega, by rw [p2, Nat.add_assoc]⟩
theorem MD_w {k j : Nat} {a b : AA} (h : MD k a b) (q : k ≤ j) : MD j a b := fun m hm => by
  obtain ⟨n, n1, n2⟩ := h m hm
  exact ⟨n, by omega, n2⟩
theorem mdOK_t {k j : Nat} {a b : AA} (h : mdOK a k) (q : MD j a b) (hj : j ≤ k) : mdOK b (k - j) := by
  obtain ⟨m, m1, m2⟩ := h
  obtain ⟨n, n1, n2⟩ := q m m1
  exact ⟨m + n, n2, by omega⟩
theorem MD_if {k : Nat} {a b c : AA} {p : Prop} [Decidable p] (h : MD k a b) (h' : MD k a c) : MD k a (if p then b else c) := by
  by_cases q : p
  · rw [if_pos q]
    exact h
  · rw [if_neg q]
    exact h'
theorem mdOK_w {k j : Nat} {a : AA} (h : mdOK a k) (q : j ≤ k) : mdOK a j := by
  obtain ⟨m, m1, m2⟩ := h
  exact ⟨m, m1, by omega⟩
/-- a bell that is set -/
def aBellS (a : AA) (b : Nat) (t : Int32) : AA := if b < 16 then aI (aI a 30 b t) 29 b (aS a 2 0) else aI (aI a 32 (b - 16) t) 31 (b - 16) (aS a 2 0)
theorem aS_bell {a : AA} {b : Nat} {t : Int32} {f i : Nat} (hf : f ≠ 29 ∧ f ≠ 30 ∧ f ≠ 31 ∧ f ≠ 32) : aS (aBellS a b t) f i = aS a f i := by
  unfold aBellS
  by_cases q : b < 16
  · rw [if_pos q, aS_If hf.1, aS_If hf.2.1]
  · rw [if_neg q, aS_If hf.2.2.1, aS_If hf.2.2.2]
theorem a2_bell {a : AA} {b : Nat} {t : Int32} : (aBellS a b t).2 = a.2 ∧ (aBellS a b t).1.2 = a.1.2 := by
  unfold aBellS
  by_cases q : b < 16
  · rw [if_pos q]
    exact ⟨rfl, rfl⟩
  · rw [if_neg q]
    exact ⟨rfl, rfl⟩
theorem bn_bell {a : AA} {b x : Nat} {t : Int32} (hb : b < 23) (hx : x < 23) : aBn (aBellS a b t) x = (if x = b then aS a 2 0 else aBn a x) ∧ aBt (aBellS a b t) x = if x = b then t else aBt a x := by
  unfold aBellS aBn aBt
  by_cases q : b < 16
  · rw [if_pos q]
    by_cases r : x < 16
    · rw [if_pos r, if_pos r, if_pos r, if_pos r]
      by_cases z : x = b
      · rw [if_pos z, if_pos z, z]
        exact ⟨if_pos ⟨rfl, rfl⟩, (aS_If (by decide)).trans (if_pos ⟨rfl, rfl⟩)⟩
      · rw [if_neg z, if_neg z]
        exact ⟨(if_neg (fun y => z y.2)).trans (aS_If (by decide)), (aS_If (by decide)).trans (if_neg (fun y => z y.2))⟩
    · rw [if_neg r, if_neg r, if_neg r, if_neg r, if_neg (by omega), if_neg (by omega)]
      exact ⟨(aS_If (by decide)).trans (aS_If (by decide)), (aS_If (by decide)).trans (aS_If (by decide))⟩
  · rw [if_neg q]
    by_cases r : x < 16
    · rw [if_pos r, if_pos r, if_pos r, if_pos r, if_neg (by omega), if_neg (by omega)]
      exact ⟨(aS_If (by decide)).trans (aS_If (by decide)), (aS_If (by decide)).trans (aS_If (by decide))⟩
    · rw [if_neg r, if_neg r, if_neg r, if_neg r]
      by_cases z : x = b
      · rw [if_pos z, if_pos z, z]
        exact ⟨if_pos ⟨rfl, rfl⟩, (aS_If (by decide)).trans (if_pos ⟨rfl, rfl⟩)⟩
      · have z' : ¬ x - 16 = b - 16 := by omega
        rw [if_neg z, if_neg z]
        exact ⟨(if_neg (fun y => z' y.2)).trans (aS_If (by decide)), (aS_If (by decide)).trans (if_neg (fun y => z' y.2))⟩
