/-! an event, the beginning, calls of the face: the order, the letters, the clients -/
/-- whether an event is a sync -/
def evS (e : Int32 × Option Nat) : Bool := match e.2 with
  | some b => decide (16 ≤ b)
  | none => false
section FC0
variable {t B B' c d k : Nat} {a b : AA} {e : Int32 × Option Nat}
theorem due_mv {u : Nat} {v : Int32} : dueW u (aWay (hp1 a v)) + dueB u (hp1 a v) = dueW u (aWay a) + dueB u a := by
  have e0 : ∀ f, f ≠ 1 → f ≠ 3 → ∀ i, aS (hp1 a v) f i = aS a f i := fun f y1 y2 i => (aS_If y2).trans (aS_If y1)
  have eD : dueB u (hp1 a v) = dueB u a := sumN_eq 16 (fun x _ => by rw [e0 29 (by decide) (by decide), e0 30 (by decide) (by decide)])
  rw [eD]
  rfl
theorem bn_mv {v : Int32} {x : Nat} : aBn (hp1 a v) x = aBn a x ∧ aBt (hp1 a v) x = aBt a x := by
  have e0 : ∀ f, f ≠ 1 → f ≠ 3 → ∀ i, aS (hp1 a v) f i = aS a f i := fun f y1 y2 i => (aS_If y2).trans (aS_If y1)
  unfold aBn aBt
  rw [e0 29 (by decide) (by decide), e0 31 (by decide) (by decide), e0 30 (by decide) (by decide), e0 32 (by decide) (by decide)]
  exact ⟨rfl, rfl⟩
/-- an event keeps it all -/
theorem EW_happen (h : Ev t B c d a) (w : Wd a) (hn : aNext a = some e) (hB : B ≤ B') (hu : e.1.toInt + 2001 ≤ B') (hB2 : B' < 1073741824) (hc : c + 4 + 200 < 2147483648) :
    ∃ u : Nat, e.1.toInt = u ∧ t ≤ u ∧ u ≤ B ∧ ∀ D, (dueW u (aWay a) + dueB u a ≤ D + if evS e = true then 0 else 1) → Ev u B' (c + 4) D (A_happen a e).1 ∧ Wd (A_happen a e).1 := by
  obtain ⟨m1, m2, m3⟩ := nx_min h.2.2.2.2.2.1 hn
  have hb : (t : Int) ≤ e.1.toInt ∧ e.1.toInt ≤ (B : Int) := by
    unfold nxE at m3
    split at m3
    · obtain ⟨q1, q2, q3⟩ := m3
      have := h.2.2.2.1 _ q1 q2
      rw [q3] at this
      omega
    · obtain ⟨x, r, q1, q2⟩ := m3
      have := h.2.2.1 x (by rw [q1]; exact List.mem_cons_self)
      rw [q2] at this
      omega
  refine ⟨e.1.toInt.toNat, by omega, by omega, by omega, fun D hD => ?_⟩
  have hv : e.1.toInt = ((e.1.toInt.toNat : Nat) : Int) := by omega
  generalize e.1.toInt.toNat = u at hv hD ⊢
  have g : Ev u B' c (D + if evS e = true then 0 else 1) (hp1 a e.1) := Ev_move h hv m1 m2 hB (by omega) hB2 hD
  have w1 : Wd (hp1 a e.1) := Wd_hp w
  obtain ⟨v, o⟩ := e
  cases o with
  | some i =>
    obtain ⟨q1, q2, q3⟩ := m3
    have q3 : aBt a i = v := q3
    dsimp only at g w1 hv
    have eA : (A_happen a (v, some i)).1 = (if 16 ≤ i then A_sync (aI (hp1 a v) 31 (i - 16) (-1)) (i - 16) else if i < 8 then A_ring (aI (hp1 a v) 29 i (-1)) i else A_ringClient (aI (hp1 a v) 29 i (-1)) (i - 8)) := by
      rw [hap_b]
      split
      · rfl
      · split <;> rfl
    have key := Ev_hapB (b := (A_happen a (v, some i)).1) (D := D) g w1 q1 (by rw [bn_mv.1]; exact q2) (by rw [bn_mv.2, q3]; exact hv) (by
      show (D + if evS (v, some i) = true then 0 else 1) ≤ D + if 16 ≤ i then 0 else 1
      have ee : evS (v, some i) = decide (16 ≤ i) := rfl
      rw [ee]
      by_cases z : 16 ≤ i
      · rw [if_pos (decide_eq_true z), if_pos z]
        exact Nat.le_refl _
      · rw [if_neg (by rw [decide_eq_true_eq]; exact z), if_neg z]
        exact Nat.le_refl _) hc v (fun r hr => hr.trans eA.symm)
    exact key
  | none =>
    obtain ⟨x, r, q1, q2⟩ := m3
    have q2 : x.1 = v := q2
    subst q2
    dsimp only at g w1 hv
    have eA : (A_happen a (x.1, none)).1 = (if A_parted (aWayS (hp1 a x.1) r) (x.2.2.1 2) (x.2.2.1 3) ∨ (x.2.2.1 3 < 7 ∧ aS (aWayS (hp1 a x.1) r) 52 (x.2.2.1 3).toNatClampNeg = 0) then aAdd (aWayS (hp1 a x.1) r) 22 0 1 else if x.2.2.1 3 < 7 then (if x.2.2.1 4 = 10 then A_asked (aWayS (hp1 a x.1) r) (x.2.2.1 3).toNatClampNeg x.2.2 else A_came (aWayS (hp1 a x.1) r) (x.2.2.1 3).toNatClampNeg x.2.2) else A_hear (aWayS (hp1 a x.1) r) ((x.2.2.1 3).toNatClampNeg - 8) x.2.2) := by
      rw [hap_l q1]
      split
      · rfl
      · split <;> rfl
    rw [eA]
    exact Ev_hapL (D := D) g w1 (show aWay (hp1 a x.1) = x :: r from q1) hv (Nat.le_refl _) hc
/-! the beginning -/
theorem nA_29 {n : Int32} {J : Int64} {i : Nat} : aS (nA n J 7) 29 i = if i < 7 then Int32.ofNat i else -1 := by
  by_cases q : i < 7
  · rw [if_pos q]
    exact if_pos ⟨rfl, q⟩
  · rw [if_neg q]
    show (if 29 = 29 ∧ i < 7 then Int32.ofNat i else if 29 = 30 ∧ i < 7 then nwT J i else if 29 = 2 ∧ i = 0 then Int32.ofNat 7 else nB n 29 i) = -1
    rw [if_neg (fun z => q z.2), if_neg (fun z => absurd z.1 (by decide)), if_neg (fun z => absurd z.1 (by decide))]
    rfl
theorem nA_30 {n : Int32} {J : Int64} {i : Nat} (q : i < 7) : aS (nA n J 7) 30 i = nwT J i := by
  show (if 30 = 29 ∧ i < 7 then Int32.ofNat i else if 30 = 30 ∧ i < 7 then nwT J i else if 30 = 2 ∧ i = 0 then Int32.ofNat 7 else nB n 30 i) = _
  rw [if_neg (fun z => absurd z.1 (by decide)), if_pos ⟨rfl, q⟩]
theorem nA_bn {n : Int32} {J : Int64} {x : Nat} : aBn (nA n J 7) x = if x < 7 then Int32.ofNat x else -1 := by
  unfold aBn
  by_cases q : x < 16
  · rw [if_pos q]
    exact nA_29
  · rw [if_neg q, if_neg (by omega)]
    rfl
theorem nA_7 {n : Int32} {J : Int64} {x : Nat} (h0 : 0 ≤ (aBn (nA n J 7) x).toInt) : x < 7 ∧ (aBn (nA n J 7) x).toInt = x := by
  rw [nA_bn] at h0 ⊢
  by_cases q : x < 7
  · rw [if_pos q, Int32.toInt_ofNat_of_lt (by omega)]
    exact ⟨q, rfl⟩
  · rw [if_neg q] at h0
    exact absurd h0 (by decide)
theorem nwT_5 {J : Int64} {k : Nat} : 50 ≤ (nwT J k).toInt := by
  obtain ⟨h1, h2⟩ := aRnd_b (x := aLcg (nL0 J 84 k)) (m := 50) (by decide) (by decide)
  have e : nwT J k = 0 + 50 + aRnd (aLcg (nL0 J 84 k)) (Int64.ofNat 50) := rfl
  rw [e]
  have e0 : ((0 : Int32) + 50) = Int32.ofInt 50 := by decide
  rw [e0, Int32.toInt_add, show (Int32.ofInt 50).toInt = 50 by decide, Int.bmod_eq_of_le (by omega) (by omega)]
  omega
theorem Ev_0 {n : Int32} {J : Int64} : Ev 0 2001 7 0 (A_new n J) := by
  rw [new_e]
  have e2 : aS (nA (aCode0 n) J 7) 2 0 = Int32.ofNat 7 := rfl
  have t2 : (aS (nA (aCode0 n) J 7) 2 0).toInt = 7 := by
    rw [e2]
    decide
  have e1 : aNow (nA (aCode0 n) J 7) = 0 := rfl
  have e23 : ∀ i, aS (nA (aCode0 n) J 7) 23 i = 3 := fun _ => rfl
  have e72 : ∀ i, aS (nA (aCode0 n) J 7) 72 i = 2 := fun _ => rfl
  have e27 : aS (nA (aCode0 n) J 7) 27 0 = 0 := rfl
  have e31 : ∀ i, aS (nA (aCode0 n) J 7) 31 i = -1 := fun _ => rfl
  have ew : aWay (nA (aCode0 n) J 7) = [] := rfl
  refine ⟨⟨by rw [e1]; decide, by omega, by omega, by omega⟩, ⟨by rw [t2]; omega, by rw [t2]; omega⟩, fun x hx => absurd (show x ∈ [] from hx) List.not_mem_nil, fun x _ h0 => ?_, Nat.zero_le _, List.Pairwise.nil, fun x hx => absurd (show x ∈ [] from hx) List.not_mem_nil, fun x y _ _ hne h0 => ?_, fun i => by rw [e23]; decide, fun s _ => by rw [e72]; decide, by rw [e27]; decide, fun s _ h0 => ?_, ?_⟩
  · obtain ⟨q1, q2⟩ := nA_7 h0
    have et : aBt (nA (aCode0 n) J 7) x = nwT J x := by
      unfold aBt
      rw [if_pos (by omega)]
      exact nA_30 q1
    have := nwT_b (J := J) (k := x)
    rw [t2, q2, et]
    omega
  · obtain ⟨q1, q2⟩ := nA_7 h0
    intro z
    have h1 : 0 ≤ (aBn (nA (aCode0 n) J 7) y).toInt := by rw [← z]; exact h0
    have := (nA_7 h1).2
    omega
  · rw [e31] at h0
    exact absurd h0 (by decide)
  · have hd : dueB 0 (nA (aCode0 n) J 7) ≤ sumN (fun _ => 0) 16 := sumN_le 16 (fun x hx => by
      rw [if_neg]
      · exact Nat.le_refl _
      · intro y
        have y1 := y.1
        have e29 : aBn (nA (aCode0 n) J 7) x = aS (nA (aCode0 n) J 7) 29 x := if_pos hx
        rw [← e29] at y1
        obtain ⟨q1, q2⟩ := nA_7 y1
        have y2 := y.2
        rw [nA_30 q1] at y2
        have := nwT_5 (J := J) (k := x)
        omega)
    rw [z_sum] at hd
    show dueW 0 [] + dueB 0 (nA (aCode0 n) J 7) ≤ 0
    have : dueW 0 [] = 0 := rfl
    omega
theorem Wd_0 {n : Int32} {J : Int64} : Wd (A_new n J) := by
  rw [new_e]
  have f1 : ∀ s, aS (nA (aCode0 n) J 7) 45 s = -1 := fun _ => rfl
  have f2 : ∀ s, aS (nA (aCode0 n) J 7) 74 s = -1 := fun _ => rfl
  have f3 : ∀ s, aS (nA (aCode0 n) J 7) 80 s = -1 := fun _ => rfl
  have f4 : ∀ s, aS (nA (aCode0 n) J 7) 125 s = 0 := fun _ => rfl
  have f5 : ∀ s, aS (nA (aCode0 n) J 7) 124 s = 0 := fun _ => rfl
  refine ⟨fun s _ => ⟨fun f hf => absurd (show f ∈ [] from hf) List.not_mem_nil, fun q hq => absurd (show q ∈ [] from hq) List.not_mem_nil, fun l hl => absurd (show l ∈ [] from hl) List.not_mem_nil, Or.inl (f1 s), by rw [f2]; decide, by rw [f3]; decide⟩, fun x hx => absurd (show x ∈ [] from hx) List.not_mem_nil, fun k _ => ⟨by rw [f4]; decide, Or.inl (f5 k), fun y => ?_, fun y => ?_⟩, ?_⟩
  · rw [f5] at y
    exact absurd y (by decide)
  · rw [nA_29, if_neg (by omega)] at y
    exact absurd y (by decide)
  · rw [nA_29, if_neg (by omega)]
    decide
/-! calls that only set numbers -/
theorem EW_delay {f x n : Int32} (h : Ev t B c d a) (w : Wd a) : Ev t B c d (A_delay a f x n).1 ∧ Wd (A_delay a f x n).1 := by
  unfold A_delay
  split
  · exact ⟨h, w⟩
  · split
    · exact ⟨h, w⟩
    · rename_i q
      have hn : 1 ≤ n.toInt ∧ n.toInt ≤ 1000 := by
        have q2 : aInR n 1 1000 = true := by
          cases z : aInR n 1 1000
          · rw [z] at q
            exact absurd rfl q
          · rfl
        unfold aInR at q2
        rw [Bool.and_eq_true_iff, decide_eq_true_eq, decide_eq_true_eq, Int32.le_iff_toInt_le, Int32.le_iff_toInt_le, L_1, L_1000] at q2
        exact q2
      refine ⟨?_, Wd_nn (by decide) w⟩
      have e0 : ∀ g, g ≠ 23 → ∀ i, aS (aI a 23 (16 * f + x).toNatClampNeg n) g i = aS a g i := fun g hg i => aS_If hg
      have en : aBn (aI a 23 (16 * f + x).toNatClampNeg n) = aBn a := by
        funext y
        unfold aBn
        rw [e0 29 (by decide), e0 31 (by decide)]
      have et : aBt (aI a 23 (16 * f + x).toNatClampNeg n) = aBt a := by
        funext y
        unfold aBt
        rw [e0 30 (by decide), e0 32 (by decide)]
      have eR : drt (aI a 23 (16 * f + x).toNatClampNeg n) = drt a := sumN_eq 7 (fun y _ => by rw [e0 71 (by decide)])
      have eD : dueB t (aI a 23 (16 * f + x).toNatClampNeg n) = dueB t a := sumN_eq 16 (fun y _ => by rw [e0 29 (by decide), e0 30 (by decide)])
      have e23 : ∀ i, aS (aI a 23 (16 * f + x).toNatClampNeg n) 23 i = if i = (16 * f + x).toNatClampNeg then n else aS a 23 i := by
        intro i
        by_cases z : i = (16 * f + x).toNatClampNeg
        · rw [if_pos z, z, evI_e]
        · rw [if_neg z, evI_i z]
      have ew : aWay (aI a 23 (16 * f + x).toNatClampNeg n) = aWay a := rfl
      show Ev t B c d (aI a 23 (16 * f + x).toNatClampNeg n)
      generalize aI a 23 (16 * f + x).toNatClampNeg n = b2 at e0 en et eR eD e23 ew ⊢
      obtain ⟨e1, e2, e3, e4, e5, e6, e7, e8, e9, e10, e11, e12, e13⟩ := h
      refine ⟨⟨(congrArg Int32.toInt (e0 1 (by decide) 0)).trans e1.1, e1.2⟩, by rw [e0 2 (by decide), ew, eR]; exact e2, by rw [ew, e0 2 (by decide)]; exact e3, by rw [en, et, e0 2 (by decide)]; exact e4, by rw [ew]; exact e5, by rw [ew]; exact e6, by rw [ew, en]; exact e7, by rw [en]; exact e8, fun i => ?_, fun s hs => by rw [e0 72 (by decide)]; exact e10 s hs, by rw [e0 27 (by decide)]; exact e11, fun s hs => by rw [e0 31 (by decide), e0 71 (by decide)]; exact e12 s hs, by rw [ew, eD]; exact e13⟩
      rw [e23]
      split
      · exact hn
      · exact e9 i
theorem EW_part {n : Int32} (h : Ev t B c d a) (w : Wd a) : Ev t B c d (A_part a n).1 ∧ Wd (A_part a n).1 := by
  unfold A_part
  split
  · exact ⟨h, w⟩
  · exact ⟨Ev_nn (by decide) h, Wd_nn (by decide) w⟩
theorem EW_giveUp {n : Int32} (h : Ev t B c d a) (w : Wd a) : Ev t B c d (A_giveUp a n).1 ∧ Wd (A_giveUp a n).1 := by
  unfold A_giveUp
  split
  · exact ⟨h, w⟩
  · rename_i q
    split
    · exact ⟨h, w⟩
    · have hk : n.toNatClampNeg < 8 := by
        have q2 : aInR n 0 7 = true := by
          cases z : aInR n 0 7
          · rw [z] at q
            exact absurd rfl q
          · rfl
        unfold aInR at q2
        rw [Bool.and_eq_true_iff, decide_eq_true_eq, decide_eq_true_eq, Int32.le_iff_toInt_le, Int32.le_iff_toInt_le, i_0, L_7] at q2
        show n.toInt.toNat < 8
        omega
      exact ⟨Ev_resign h hk, Wd_resign w hk⟩
end FC0
