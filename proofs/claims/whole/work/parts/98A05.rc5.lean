/-! letters go on their way -/
theorem tw_len {α : Type} {p : α → Bool} : ∀ {l : List α}, (l.takeWhile p).length ≤ l.length
  | [] => Nat.le_refl _
  | x :: l => by
    rw [List.takeWhile_cons]
    split
    · rw [List.length_cons, List.length_cons]
      have := tw_len (p := p) (l := l)
      omega
    · simp
/-- where the first ones end for which something holds -/
theorem tw_at {α : Type} {p : α → Bool} : ∀ {l : List α} {n : Nat}, n ≤ l.length → (∀ i x, i < n → l[i]? = some x → p x = true) → (∀ x, l[n]? = some x → p x = false) → l.takeWhile p = l.take n ∧ l.dropWhile p = l.drop n
  | [], n, h, _, _ => by simp
  | x :: l, 0, _, _, h2 => by
    have := h2 x rfl
    rw [List.takeWhile_cons, List.dropWhile_cons, this]
    exact ⟨rfl, rfl⟩
  | x :: l, n + 1, h, h1, h2 => by
    have e := h1 0 x (by omega) rfl
    have ih := tw_at (p := p) (l := l) (n := n) (by rw [List.length_cons] at h; omega) (fun i y hi hy => h1 (i + 1) y (by omega) (by simpa using hy)) (fun y hy => h2 y (by simpa using hy))
    rw [List.takeWhile_cons, List.dropWhile_cons, e]
    simp only [if_true]
    exact ⟨by rw [ih.1]; rfl, by rw [ih.2]; rfl⟩
theorem way_sorted {w : List AP} {i j : Nat} {x y : AP} (h : w.Pairwise (fun x y => x.1 ≤ y.1)) (hi : w[i]? = some x) (hj : w[j]? = some y) (hij : i < j) : x.1 ≤ y.1 := by
  rw [List.pairwise_iff_getElem] at h
  have h1 : i < w.length := by
    rcases Nat.lt_or_ge i w.length with q | q
    · exact q
    · rw [List.getElem?_eq_none q] at hi
      cases hi
  have h2 : j < w.length := by
    rcases Nat.lt_or_ge j w.length with q | q
    · exact q
    · rw [List.getElem?_eq_none q] at hj
      cases hj
  have := h i j h1 h2 hij
  rw [List.getElem?_eq_getElem h1] at hi
  rw [List.getElem?_eq_getElem h2] at hj
  cases hi
  cases hj
  exact this
theorem i_trans {x y z : Int32} (h : x ≤ y) (h' : y ≤ z) : x ≤ z := by
  rw [Int32.le_iff_toInt_le] at *
  omega
theorem aIns_sorted {x : AP} {w : List AP} (h : w.Pairwise (fun x y => x.1 ≤ y.1)) : (aIns x w).Pairwise (fun x y => x.1 ≤ y.1) := by
  unfold aIns
  induction w with
  | nil => simp
  | cons y w ih =>
    rw [List.pairwise_cons] at h
    rw [List.takeWhile_cons, List.dropWhile_cons]
    by_cases q : y.1 ≤ x.1
    · rw [if_pos (decide_eq_true q), if_pos (decide_eq_true q), List.cons_append, List.pairwise_cons]
      refine ⟨fun z hz => ?_, ih h.2⟩
      rcases List.mem_append.mp hz with hz | hz
      · exact h.1 z (List.takeWhile_sublist _ |>.subset hz)
      · rcases List.mem_cons.mp hz with rfl | hz
        · exact q
        · exact h.1 z (List.dropWhile_sublist _ |>.subset hz)
    · rw [if_neg (by simpa using q), if_neg (by simpa using q), List.nil_append, List.pairwise_cons]
      have q' : x.1 ≤ y.1 := by
        rw [Int32.le_iff_toInt_le] at q ⊢
        omega
      refine ⟨fun z hz => ?_, List.pairwise_cons.mpr h⟩
      rcases List.mem_cons.mp hz with rfl | hz
      · exact q'
      · exact i_trans q' (h.1 z hz)
/-- the place behind all that arrive not later -/
theorem launchL {F : Nat} {c : CS} {w : List AP} {ad : Nat} {t : Int32} {Q : CS → Prop} (hf : F2 (LRp c) (cS c 14 0 15) w) (hs : w.Pairwise (fun x y => x.1 ≤ y.1)) (hlen : (cS c 14 0 15).length ≤ 128)
    (k : ∀ m, m ≤ w.length → aIns (t, 0, aL0) w = w.take m ++ (t, 0, aL0) :: w.drop m → w.takeWhile (fun y => decide (y.1 ≤ t)) = w.take m → w.dropWhile (fun y => decide (y.1 ≤ t)) = w.drop m → WP (k_World_launch_b104 F c 0 ad (Int32.ofNat m)) Q) :
    ∀ n m, m < n → m ≤ w.length → (∀ x, w[m]? = some x → ¬ x.1 ≤ t) → WP (k_World_launch_b74 F n c 0 ad t (Int32.ofNat m)) Q := by
  have hl := F2_len hf
  intro n
  induction n with
  | zero => intro m h1; omega
  | succ n ih =>
    intro m h1 h2 h3
    have fin : (m = 0 ∨ ∃ x, w[m - 1]? = some x ∧ x.1 ≤ t) → WP (k_World_launch_b104 F c 0 ad (Int32.ofNat m)) Q := by
      intro hz
      have e := tw_at (p := fun y : AP => decide (y.1 ≤ t)) (l := w) (n := m) h2 (fun i x hi hx => by
        rcases hz with hz | ⟨y, hy, hyt⟩
        · omega
        · by_cases q : i = m - 1
          · subst q
            rw [hx] at hy
            cases hy
            exact decide_eq_true hyt
          · exact decide_eq_true (i_trans (way_sorted hs hx hy (by omega)) hyt)) (fun x hx => decide_eq_false (h3 x hx))
      refine k m h2 ?_ e.1 e.2
      unfold aIns
      show w.takeWhile (fun y => decide (y.1 ≤ t)) ++ _ :: w.dropWhile (fun y => decide (y.1 ≤ t)) = _
      rw [e.1, e.2]
    unfold k_World_launch_b74
    dsimp only
    refine WP_if c0_le (fun q => ?_) (fun q => ?_)
    · have : m = 0 := by
        rcases Nat.eq_zero_or_pos m with z | z
        · exact z
        · exfalso
          rw [Int32.le_iff_toInt_le, Int32.toInt_ofNat_of_lt (by omega)] at q
          have : (0 : Int32).toInt = 0 := by decide
          omega
      exact fin (Or.inl this)
    · have hm : 1 ≤ m := by
        rcases Nat.eq_zero_or_pos m with z | z
        · rw [z] at q
          exact absurd (by decide) q
        · exact z
      rw [i_pre hm]
      have hg : m - 1 < (cS c 14 0 15).length := by omega
      have hx := List.getElem?_eq_getElem hg
      rw [clget_n rfl (by omega) hx]
      obtain ⟨y, hy, hr⟩ := F2_get hf hx
      show WP (if _ then _ else _) Q
      rw [hr.1]
      refine WP_if c2_le (fun q2 => ?_) (fun q2 => ?_)
      · exact fin (Or.inr ⟨y, hy, q2⟩)
      · rw [i_add1m hm]
        exact ih (m - 1) (by omega) (by omega) (fun x hx => by rw [hy] at hx; cases hx; exact q2)
theorem csI8_L {c : CS} {ad f j : Nat} {x : Int32} : cS (csI c 8 ad f j x) = cS c ∧ cL (csI c 8 ad f j x) = cL c ∧ cT (csI c 8 ad f j x) = cT c := ⟨rfl, rfl, rfl⟩
theorem cnt_ins {l : List Nat} {m ad x : Nat} : (l.take m ++ ad :: l.drop m).count x = l.count x + if ad = x then 1 else 0 := by
  have := List.take_append_drop m l
  conv => rhs; rw [← this]
  rw [List.count_append, List.count_append, List.count_cons]
  by_cases q : ad = x
  · rw [if_pos (by simp [q]), if_pos q]
    omega
  · rw [if_neg (by simp [q]), if_neg q]
    omega
theorem LR_01 {c : CS} {ad f : Nat} {x : Int32} {l : AL} (hf : f < 2) (h : LR c ad l) : LR (csI c 8 ad f 0 x) ad l := by
  have hl : ∀ k, ∀ j ∈ lFs k, j ∈ [6, 7, 8, 9, 10, 11, 12, 13, 14, 15, 16] := by
    intro k
    unfold lFs
    repeat' split
    all_goals decide
  have e : ∀ g j, 2 ≤ g → cI (csI c 8 ad f 0 x) 8 ad g j = cI c 8 ad g j := fun g j hg => csI_f (by omega)
  obtain ⟨y1, y2, y3, y4, y5⟩ := h
  refine ⟨fun j hj => ?_, fun j hj => ?_, fun z => ?_, fun z => ?_, fun z => ?_⟩
  · rw [e j 0 (by simp at hj; omega)]
    exact y1 j hj
  · have := hl _ j hj
    rw [e j 0 (by simp at this; omega)]
    exact y2 j hj
  · rw [e 17 0 (by omega)]
    exact ⟨(y3 z).1, (y3 z).2.1, fun i hi => ⟨fun j hj => by rw [e 18 _ (by omega)]; exact ((y3 z).2.2 i hi).1 j hj, ((y3 z).2.2 i hi).2⟩⟩
  · obtain ⟨n, o, x1, x2, x3, x4, x5, x6, x7⟩ := y4 z
    exact ⟨n, o, x1, x2, by rw [e 17 0 (by omega)]; exact x3, x4, x5, x6, fun i hi => by rw [e 19 _ (by omega)]; exact x7 i hi⟩
  · rw [e 17 0 (by omega)]
    exact ⟨fun w => (e 7 0 (by omega)).trans ((y5 z).1 w), (y5 z).2.1, (y5 z).2.2.1, fun i hi => by rw [e 19 _ (by omega)]; exact (y5 z).2.2.2 i hi⟩
theorem K_launch {F : Nat} {c : CS} {a : AA} {ad : Nat} {l : AL} {t : Int32} {H : List (Nat × Option AL)} {U : Nat → Int32} {N : Nat × Nat} (hF : 130 ≤ F) (h : RC c a (((ad, some l) :: H, U), N)) : WP (k_World_launch F c 0 ad t) (fun c' => RC c' (A_fly a l t) ((H, U), N)) := by
  have hlr : LR c ad l := RC_hand h List.mem_cons_self
  have hk := h.2.2.2.2.2.2.2.2.2.2.2.2.2.2.2.2.2.2.2.1
  have hlen := F2_len hk.2.1
  have h128 : (aWay a).length ≤ 128 := by rw [← hlen]; exact hk.2.2.2.2.1
  unfold k_World_launch k_World_launch_b0 A_fly
  have es : clsz c 14 0 15 = Int32.ofNat (aWay a).length := by
    unfold clsz
    rw [hlen]
  rw [es]
  refine WP_if (p := (aWay a).length < 128) (by rw [c2_lt, show (128 : Int32) = Int32.ofNat 128 from rfl, ← i_nle, i_ltn (by omega) (by omega)]; omega) (fun q => ?_) (fun q => ?_)
  · rw [if_neg (by omega)]
    refine WP_b (WP_b ?_)
    rw [csI_cl (by decide), K_r h (F := 2) (cl := 14) (f := 1) (by decide) (by decide)]
    have h1 : RC (csI (csI c 8 ad 0 0 t) 8 ad 1 0 (aS a 2 0)) a (((ad, none) :: H, U), N) := RC_I8 (RC_I8 (RC_unfin h))
    have l1 : LR (csI (csI c 8 ad 0 0 t) 8 ad 1 0 (aS a 2 0)) ad l := LR_01 (by decide) (LR_01 (by decide) hlr)
    have e0 : cI (csI (csI c 8 ad 0 0 t) 8 ad 1 0 (aS a 2 0)) 8 ad 0 0 = t := (csI_f (by decide)).trans csI_e
    have e1 : cI (csI (csI c 8 ad 0 0 t) 8 ad 1 0 (aS a 2 0)) 8 ad 1 0 = aS a 2 0 := csI_e
    generalize csI (csI c 8 ad 0 0 t) 8 ad 1 0 (aS a 2 0) = c1 at h1 l1 e0 e1
    refine WP_b (WP_b ?_)
    have h2 := RC_I (x := aS a 2 0 + 1) h1 (F := 2) (cl := 14) (f := 1) (i := 0) (by decide) (by decide)
    rw [csI_f (by decide), K_r h1 (F := 2) (cl := 14) (f := 1) (by decide) (by decide), K_r h1 (F := 21) (cl := 14) (f := 3) (by decide) (by decide)]
    have h3 := RC_I (x := aS a 21 0 + 1) h2 (F := 21) (cl := 14) (f := 3) (i := 0) (by decide) (by decide)
    have l3 : LRp (csI (csI c1 14 0 1 0 (aS a 2 0 + 1)) 14 0 3 0 (aS a 21 0 + 1)) ad (t, aS a 2 0, l) := ⟨(csI_cl (by decide)).trans ((csI_cl (by decide)).trans e0), (csI_cl (by decide)).trans ((csI_cl (by decide)).trans e1), LR_fr (fun f _ => ⟨fun j => (csI_cl (by decide)).trans (csI_cl (by decide)), fun _ => rfl, rfl, rfl⟩) l1⟩
    have ea : aAdd (aAdd a 2 0 1) 21 0 1 = aI (aI a 2 0 (aS a 2 0 + 1)) 21 0 (aS a 21 0 + 1) := rfl
    rw [ea]
    have ew : aWay (aI (aI a 2 0 (aS a 2 0 + 1)) 21 0 (aS a 21 0 + 1)) = aWay a := rfl
    generalize csI (csI c1 14 0 1 0 (aS a 2 0 + 1)) 14 0 3 0 (aS a 21 0 + 1) = c3 at h3 l3
    generalize aI (aI a 2 0 (aS a 2 0 + 1)) 21 0 (aS a 21 0 + 1) = a3 at h3 ew
    have hk3 := h3.2.2.2.2.2.2.2.2.2.2.2.2.2.2.2.2.2.2.2.1
    have hlen3 := F2_len hk3.2.1
    rw [ew] at hlen3
    rw [show clsz c3 14 0 15 = Int32.ofNat (aWay a).length by unfold clsz; rw [hlen3]]
    rw [← ew] at h128 q ⊢
    refine launchL hk3.2.1 hk3.2.2.2.2.2.2 hk3.2.2.2.2.1 (fun m hm _ e2 e3 => ?_) F _ (by omega) (Nat.le_refl _) (fun x hx => by rw [List.getElem?_eq_none (Nat.le_refl _)] at hx; cases hx)
    have e4 : aIns (t, aS a 2 0, l) (aWay a3) = (aWay a3).take m ++ (t, aS a 2 0, l) :: (aWay a3).drop m := by
      unfold aIns
      show (aWay a3).takeWhile (fun y => decide (y.1 ≤ t)) ++ _ :: (aWay a3).dropWhile (fun y => decide (y.1 ≤ t)) = _
      rw [e2, e3]
    have hs' : (aIns (t, aS a 2 0, l) (aWay a3)).Pairwise (fun x y => x.1 ≤ y.1) := aIns_sorted hk3.2.2.2.2.2.2
    rw [e4] at hs' ⊢
    unfold k_World_launch_b104 clins
    rw [i_cl (by omega), if_neg (fun z => z.elim (i_nn (by omega)) (by rw [hlen3, ← ew]; omega))]
    have hp : lsP 14 0 15 := Or.inl ⟨rfl, rfl, rfl⟩
    have hll : ((cS c3 14 0 15).take m ++ ad :: (cS c3 14 0 15).drop m).length = (cS c3 14 0 15).length + 1 := by
      rw [List.length_append, List.length_cons, List.length_take, List.length_drop]
      have : m ≤ (cS c3 14 0 15).length := by rw [hlen3, ← ew]; exact hm
      omega
    obtain ⟨n, T, e, hr, hT⟩ := KRm_put (l := (cS c3 14 0 15).take m ++ ad :: (cS c3 14 0 15).drop m) (v' := ((H, U), N)) hp h3.2.2.2.2.2.2.2.2.2.2.2.2.2.2.2.2.2.2.2.2.1 rfl (by rw [hll]; show _ + 1 + H.length = _ + (H.length + 1); omega)
    rw [e]
    refine WP_b (WP_some ?_)
    have hF3 : Ck [32 * 14 + 15] 0 c3 (csS c3 14 0 15 ((cS c3 14 0 15).take m ++ ad :: (cS c3 14 0 15).drop m) n T) := Ck_S (Or.inl rfl)
    have hl3 : KLt (csS c3 14 0 15 ((cS c3 14 0 15).take m ++ ad :: (cS c3 14 0 15).drop m) n T) (aWayS a3 ((aWay a3).take m ++ (t, aS a 2 0, l) :: (aWay a3).drop m)) H := KLt_S hp hk3 hT (fun x => by rw [cnt_ins, cnt_H]; omega) (F2_app (F2_take m hk3.2.1) ⟨l3, F2_drop m hk3.2.1⟩) hs' (by show List.length ((cS c3 14 0 15).take m ++ ad :: (cS c3 14 0 15).drop m) ≤ 128; rw [hll, hlen3, ← ew]; omega) (fun s hs => ⟨hk3.2.2.1 s hs, hk3.2.2.2.2.2.1 s hs⟩) (hdH hk3.2.2.2.1)
    exact ⟨KSc_fr hF3 (by decide) h3.1, fun s hs hu => KFr_fr hF3 (by decide) (h3.2.1 s hs hu), fun s hs => KHd_fr hF3 (by decide) (h3.2.2.1 s hs), fun s hs hr => KLd_fr hF3 (by decide) (h3.2.2.2.1 s hs hr), fun s hs hu => KRq_fr hF3 (by decide) (h3.2.2.2.2.1 s hs hu), KBl_fr hF3 (by decide) h3.2.2.2.2.2.1, KDa_fr hF3 (by decide) h3.2.2.2.2.2.2.1, fun s hs => KLw_fr hF3 (by decide) (h3.2.2.2.2.2.2.2.1 s hs), fun s hs => KG_fr hF3 (by decide) (h3.2.2.2.2.2.2.2.2.1 s hs), fun s hs => KPg_fr hF3 (by decide) (h3.2.2.2.2.2.2.2.2.2.1 s hs), fun s hs => KCh_fr hF3 (by decide) (h3.2.2.2.2.2.2.2.2.2.2.1 s hs), fun s hs => KMc_fr hF3 (by decide) (h3.2.2.2.2.2.2.2.2.2.2.2.1 s hs), fun s hs => KPc_fr hF3 (by decide) (h3.2.2.2.2.2.2.2.2.2.2.2.2.1 s hs), fun k hk => KCl_fr hF3 (by decide) (h3.2.2.2.2.2.2.2.2.2.2.2.2.2.1 k hk), fun k hk => KDn_fr hF3 (by decide) (h3.2.2.2.2.2.2.2.2.2.2.2.2.2.2.1 k hk), KAk_fr hF3 (by decide) h3.2.2.2.2.2.2.2.2.2.2.2.2.2.2.2.1, KFc_fr hF3 (by decide) h3.2.2.2.2.2.2.2.2.2.2.2.2.2.2.2.2.1, fun s hs => KId_fr hF3 (by decide) (h3.2.2.2.2.2.2.2.2.2.2.2.2.2.2.2.2.2.1 s hs), fun k hk => KIc_fr hF3 (by decide) (h3.2.2.2.2.2.2.2.2.2.2.2.2.2.2.2.2.2.2.1 k hk), hl3, hr, h3.2.2.2.2.2.2.2.2.2.2.2.2.2.2.2.2.2.2.2.2.2.1, h3.2.2.2.2.2.2.2.2.2.2.2.2.2.2.2.2.2.2.2.2.2.2⟩
  · rw [if_pos (by omega)]
    refine WP_b ?_
    rw [K_r h (F := 22) (cl := 14) (f := 4) (by decide) (by decide)]
    exact WP_call (K_spare (RC_I h (by decide) (by decide))) (fun c' h' => WP_some h')
