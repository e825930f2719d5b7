/-! the machine: put, swapped, removed -/
theorem low_1 : aLow8 (1 : Int32) = 1 := by decide
theorem K_may {c : CS} {s r m u : Nat} {L : List (List Int32 × List Int32)} {f : Nat → Nat} (h : KMs c s L f) (w : shL L) (b : Bool) (hb : b = true → r < L.length) (h4 : cI c 10 s 4 0 = Int32.ofNat L.length) (h5 : cI c 10 s 5 0 = Int32.ofNat u) (hu : b = true → aUnit (L.getD r ([], [])).1.length (L.getD r ([], [])).2.length ≤ u) (hu2 : u ≤ 2000) (hm : m ≤ 1000) : k_Machine_mayStore c s (Int32.ofNat r) (aB b) (Int32.ofNat m) = some (aB (!decide ((b = false ∧ L.length = 128) ∨ 700 < u - (if b then aUnit (L.getD r ([], [])).1.length (L.getD r ([], [])).2.length else 0) + (m + 15) / 16))) := by
  have hL := w.1
  unfold k_Machine_mayStore k_Machine_mayStore_b0 k_Machine_mayStore_b13 k_Machine_mayStore_b29 k_Machine_mayStore_b54 k_Machine_mayStore_b55
  have em : (Int32.ofNat m + 15) / 16 = Int32.ofNat ((m + 15) / 16) := by
    rw [show (15 : Int32) = Int32.ofNat 15 from rfl, i_ad, show (16 : Int32) = Int32.ofNat 16 from rfl, i_div (by omega) (by omega) (by omega)]
  have e0 : (if (0 : Int32) = 0 ∨ (0 : Int32) = 1 then some (0 : Int32) else none) = some 0 := if_pos (Or.inl rfl)
  have e1 : (if (1 : Int32) = 0 ∨ (1 : Int32) = 1 then some (1 : Int32) else none) = some 1 := if_pos (Or.inr rfl)
  rw [em, h4, h5, e0, e1]
  have tl : ∀ x y : Nat, x ≤ 3000 → y ≤ 2000 → (if xc2 .gt (Int32.ofNat x + Int32.ofNat y) 700 = true then some (0 : Int32) else some 1) = some (aB (!decide (700 < x + y))) := by
    intro x y hx hy
    rw [i_ad]
    by_cases z : 700 < x + y
    · rw [if_pos (c2_gt.mpr (by rw [show (700 : Int32) = Int32.ofNat 700 from rfl, Int32.lt_iff_toInt_lt, Int32.toInt_ofNat_of_lt (by omega), Int32.toInt_ofNat_of_lt (by omega)]; omega)), decide_eq_true z]
      rfl
    · rw [if_neg (fun y => by
        have y := c2_gt.mp y
        rw [show (700 : Int32) = Int32.ofNat 700 from rfl, Int32.lt_iff_toInt_lt, Int32.toInt_ofNat_of_lt (by omega), Int32.toInt_ofNat_of_lt (by omega)] at y
        omega), decide_eq_false z]
      rfl
  have e16 : ¬ (16 : Int32) = 0 := by decide
  cases b with
  | false =>
    rw [if_pos (show xc0 .eq (aB false) = true by decide), if_neg (show ¬ xc0 .ne (aB false) = true by decide)]
    by_cases z : L.length = 128
    · rw [if_pos (by rw [z]; decide), decide_eq_true (Or.inl ⟨rfl, z⟩)]
      rfl
    · rw [if_neg (fun y => by
        rw [show (128 : Int32) = Int32.ofNat 128 from rfl] at y
        have := (i_gei (by omega) (by omega)).mp y
        omega), if_neg e16, show (0 : Int32) = Int32.ofNat 0 from rfl, i_subn (Nat.zero_le _)]
      have := tl (u - 0) ((m + 15) / 16) (by omega) (by omega)
      rw [show (Int32.ofNat 0) = (0 : Int32) from rfl, this]
      congr 3
      refine decide_eq_decide.mpr ⟨fun y => Or.inr ?_, fun y => y.elim (fun y => absurd y.2 z) (fun y => ?_)⟩
      · rw [if_neg (by decide)]
        exact y
      · rw [if_neg (by decide)] at y
        exact y
  | true =>
    rw [if_neg (show ¬ xc0 .eq (aB true) = true by decide), K_units h w (hb rfl), Option.bind_some, if_pos (show xc0 .ne (aB true) = true by decide), if_neg e16, i_subn (hu rfl)]
    rw [tl _ _ (by omega) (by omega)]
    congr 3
    refine decide_eq_decide.mpr ⟨fun y => Or.inr ?_, fun y => y.elim (fun y => absurd y.1 (by decide)) (fun y => ?_)⟩
    · rw [if_pos rfl]
      exact y
    · rw [if_pos rfl] at y
      exact y
theorem K_hasV {F : Nat} {c : CS} {s i o : Nat} {L : List (List Int32 × List Int32)} {f : Nat → Nat} {v : List Int32} (hF : 110 ≤ F) (h : KMs c s L f) (w : shL L) (hi : i < L.length) (ha : kAt c o v) : k_Machine_hasValue F c s (Int32.ofNat i) (Int32.ofNat o) (Int32.ofNat v.length) = some (aB (decide ((L.getD i ([], [])).2 = v))) := by
  have hL := w.1
  obtain ⟨h1, h2, h3⟩ := h
  obtain ⟨_, x2, _, x4⟩ := h3 i hi
  obtain ⟨_, w2⟩ := w.2 i hi
  have hq := h1.1 i (by omega)
  obtain ⟨b1, b2, b3, b4⟩ := ha
  generalize (L.getD i ([], [])).2 = W at x2 x4 w2
  unfold k_Machine_hasValue k_Machine_hasValue_b0
  rw [crd_n rfl (show i < 128 by omega) (by omega), h2 i (by omega)]
  show (crd c 10 s 8 (Int32.ofNat (f i))).bind _ = _
  rw [crd_n rfl (show f i < 128 from hq) (by omega), x2]
  show (if xc2 .eq (Int32.ofNat W.length) (Int32.ofNat v.length) = true then k_Machine_hasValue_b24 F F c s (Int32.ofNat o) (Int32.ofNat v.length) (Int32.ofNat (f i)) 0 else (if (0 : Int32) = 0 ∨ (0 : Int32) = 1 then some 0 else none)) = _
  by_cases z : W.length = v.length
  · rw [if_pos (c2_eq.mpr (by rw [z]))]
    have key : ∀ n j, v.length + 1 ≤ j + n → j ≤ v.length → k_Machine_hasValue_b24 F n c s (Int32.ofNat o) (Int32.ofNat v.length) (Int32.ofNat (f i)) (Int32.ofNat j) = some (aB (decide (W.drop j = v.drop j))) := by
      intro n
      induction n with
      | zero => intro j g1 g2; omega
      | succ n ih =>
        intro j g1 g2
        unfold k_Machine_hasValue_b24
        dsimp only
        by_cases y : j = v.length
        · rw [if_pos ((i_gei (by omega) (by omega)).mpr (by omega)), if_pos (show (1 : Int32) = 0 ∨ (1 : Int32) = 1 from Or.inr rfl), List.drop_of_length_le (by omega), List.drop_of_length_le (by omega), decide_eq_true rfl]
          rfl
        · rw [if_neg (fun u => by have := (i_gei (by omega) (by omega)).mp u; omega), i_132, show Int32.ofNat (132 * f i) + 32 = Int32.ofNat (132 * f i + 32) from i_ad (s := 32), i_ad, i_ad, crd_n rfl (show 132 * f i + 32 + j < 16896 by omega) (by omega), x4 j (by omega)]
          show (crd c 4 0 3 (Int32.ofNat (o + j))).bind _ = _
          rw [crd_n rfl (show o + j < cL c 4 0 3 by omega) (by omega), b4 j (by omega)]
          have d1 : W.drop j = W[j] :: W.drop (j + 1) := List.drop_eq_getElem_cons (by omega)
          have d2 : v.drop j = v[j] :: v.drop (j + 1) := List.drop_eq_getElem_cons (by omega)
          have g1' : W.getD j 0 = W[j] := by rw [List.getD_eq_getElem?_getD, List.getElem?_eq_getElem (by omega)]; rfl
          have g2' : v.getD j 0 = v[j] := by rw [List.getD_eq_getElem?_getD, List.getElem?_eq_getElem (by omega)]; rfl
          rw [d1, d2, g1', g2']
          show (if xc2 .eq W[j] v[j] = true then k_Machine_hasValue_b24 F n c s (Int32.ofNat o) (Int32.ofNat v.length) (Int32.ofNat (f i)) (Int32.ofNat j + 1) else (if (0 : Int32) = 0 ∨ (0 : Int32) = 1 then some 0 else none)) = _
          by_cases u : W[j] = v[j]
          · rw [if_pos (c2_eq.mpr u), i_s, ih (j + 1) (by omega) (by omega)]
            congr 2
            refine decide_eq_decide.mpr ⟨fun k => by rw [u, k], fun k => (List.cons.inj k).2⟩
          · rw [if_neg (fun k => u (c2_eq.mp k)), if_pos (show (0 : Int32) = 0 ∨ (0 : Int32) = 1 from Or.inl rfl), decide_eq_false (fun k => u (List.cons.inj k).1)]
            rfl
    have := key F 0 (by omega) (Nat.zero_le _)
    rw [List.drop_zero, List.drop_zero] at this
    exact this
  · rw [if_neg (fun y => z ((i_eqi (by omega) (by omega)).mp (c2_eq.mp y))), if_pos (show (0 : Int32) = 0 ∨ (0 : Int32) = 1 from Or.inl rfl), decide_eq_false (fun k => z (by rw [k]))]
    rfl
theorem find2 {M : AM} {k : List Int32} (w : wfM M) (bk : ∀ b ∈ k, aLow8 b = b) (hk : k.length ≤ 300) :
    (aFind M k = none ∧ (decide (aRank M k < M.2.length) && decide (aCmp (M.2.getD (aRank M k) ([], [])).1 k = 0)) = false) ∨ (aRank M k < M.2.length ∧ (M.2.getD (aRank M k) ([], [])).1 = k ∧ aFind M k = some (M.2.getD (aRank M k) ([], [])).2 ∧ (decide (aRank M k < M.2.length) && decide (aCmp (M.2.getD (aRank M k) ([], [])).1 k = 0)) = true) := by
  have ef := @aFind_e M k
  by_cases z : aRank M k < M.2.length
  · rw [if_pos z] at ef
    by_cases y : aCmp (M.2.getD (aRank M k) ([], [])).1 k = 0
    · rw [if_pos y] at ef
      refine Or.inr ⟨z, ?_, ef, by rw [decide_eq_true z, decide_eq_true y]; rfl⟩
      have hm : M.2.getD (aRank M k) ([], []) ∈ M.2 := by
        rw [getD_g z]
        exact List.getElem_mem _
      have := w.2.2.2 _ hm
      exact aCmp_0 _ _ this.2.2.1 bk (by omega) hk y
    · rw [if_neg y] at ef
      exact Or.inl ⟨ef, by rw [decide_eq_false y, Bool.and_false]⟩
  · rw [if_neg z] at ef
    exact Or.inl ⟨ef, by rw [decide_eq_false z, Bool.false_and]⟩
theorem set_mid {α : Type} {x y : α} : ∀ (A B : List α), (A ++ x :: B).set A.length y = A ++ y :: B
  | [], _ => rfl
  | a :: A, B => by
    show a :: (A ++ x :: B).set A.length y = a :: (A ++ y :: B)
    rw [set_mid A B]
theorem set_td {L : List (List Int32 × List Int32)} {r : Nat} {x : List Int32 × List Int32} (hr : r < L.length) : L.set r x = L.take r ++ x :: L.drop (r + 1) := by
  have e : L = L.take r ++ L[r] :: L.drop (r + 1) := by rw [← List.drop_eq_getElem_cons hr, List.take_append_drop]
  have hl : (L.take r).length = r := by
    rw [List.length_take]
    omega
  have e2 : (L.take r ++ L[r] :: L.drop (r + 1)).set r x = L.take r ++ x :: L.drop (r + 1) := by
    have := @set_mid _ L[r] x (L.take r) (L.drop (r + 1))
    rw [hl] at this
    exact this
  rw [← e] at e2
  exact e2
theorem keep_f {M : AM} {k v : List Int32} (hr : aRank M k < M.2.length) (ef : aFind M k = some (M.2.getD (aRank M k) ([], [])).2) : aKeep M k v = if 700 < aUnits M - aUnit k.length (M.2.getD (aRank M k) ([], [])).2.length + aUnit k.length v.length then none else some (M.1, M.2.set (aRank M k) (k, v)) := by
  unfold aKeep
  rw [ef]
  dsimp only [Option.isNone]
  rw [set_td hr]
  by_cases z : 700 < aUnits M - aUnit k.length (M.2.getD (aRank M k) ([], [])).2.length + aUnit k.length v.length
  · rw [if_pos z, if_pos (Or.inr z)]
  · rw [if_neg z, if_neg (fun y => y.elim (fun y => absurd y.1 (by decide)) z), if_neg (by decide)]
theorem keep_n {M : AM} {k v : List Int32} (ef : aFind M k = none) : aKeep M k v = if M.2.length = 128 ∨ 700 < aUnits M + aUnit k.length v.length then none else some (M.1, M.2.take (aRank M k) ++ (k, v) :: M.2.drop (aRank M k)) := by
  unfold aKeep
  rw [ef]
  dsimp only [Option.isNone]
  rw [Nat.sub_zero, if_pos (show true = true from rfl), Nat.add_zero]
  by_cases z : M.2.length = 128 ∨ 700 < aUnits M + aUnit k.length v.length
  · rw [if_pos z, if_pos (z.imp (fun y => ⟨rfl, y⟩) id)]
  · rw [if_neg z, if_neg (fun y => z (y.imp (fun u => u.2) id))]
theorem KM0_say {c c' : CS} {s : Nat} {M : AM} {fs : List Nat} (h : KM0 c s M) (P : PX 10 s fs c c') (q : ∀ f ∈ fs, 10 ≤ f) : KM0 c' s M := by
  have e : ∀ g j, g < 10 → cI c' 10 s g j = cI c 10 s g j := fun g j hg => PX_o P (fun z => by have := q g z; omega)
  unfold KM0 at h ⊢
  simp only [e _ _ (show 1 < 10 by omega), e _ _ (show 2 < 10 by omega), e _ _ (show 3 < 10 by omega), e _ _ (show 4 < 10 by omega), e _ _ (show 5 < 10 by omega), e _ _ (show 6 < 10 by omega), e _ _ (show 7 < 10 by omega), e _ _ (show 8 < 10 by omega), e _ _ (show 9 < 10 by omega)]
  exact h
theorem kAt_P {c c' : CS} {s o : Nat} {v : List Int32} {fs : List Nat} (h : kAt c o v) (P : PX 10 s fs c c') : kAt c' o v := by
  obtain ⟨a1, a2, a3, a4⟩ := h
  exact ⟨a1, by rw [PX_cL P]; exact a2, a3, fun j hj => (PX_c P (by decide)).trans (a4 j hj)⟩
theorem ans_P {c c' : CS} {s : Nat} {bs : List Int32} {fs : List Nat} (h : ansIs c s bs) (P : PX 10 s fs c c') (q : 10 ∉ fs ∧ 11 ∉ fs) : ansIs c' s bs := ⟨(PX_o P q.2).trans h.1, fun i hi => (PX_o P q.1).trans (h.2 i hi)⟩
/-- a value is written for a key that is there -/
theorem K_keepF {c : CS} {s o : Nat} {M : AM} {k v : List Int32} (h : KM0 c s M) (w : wfM M) (hr : aRank M k < M.2.length) (ek : (M.2.getD (aRank M k) ([], [])).1 = k) (hv : v.length ≤ 100) (ha : kAt c o v) : WP (k_Machine_storeValue c s (Int32.ofNat (aRank M k)) (Int32.ofNat o) (Int32.ofNat v.length)) (fun c' => PX 10 s [5, 8, 9] c c' ∧ KM0 c' s (M.1, M.2.set (aRank M k) (k, v))) := by
  obtain ⟨h1, h4, h5, hS, f, hK⟩ := KM0_f h
  have hun := un_rep (M := M) (k := k) (v := v) hr
  rw [ek] at hun
  have hle : aUnit k.length (M.2.getD (aRank M k) ([], [])).2.length ≤ aUnits M := by
    unfold aUnits
    refine le_sum_mem _ _ (List.mem_map.mpr ⟨M.2.getD (aRank M k) ([], []), ?_, by rw [ek]⟩)
    rw [getD_g hr]
    exact List.getElem_mem _
  have hst := K_store hK (shL_wf w) hr hv ha h5 (by rw [ek]; exact hle)
  rw [ek] at hst
  refine WP_mono hst (fun c' hc => ⟨hc.1, KM0_b (f := f) (by rw [List.length_set]; exact w.2.1) ((PX_o hc.1 (by decide)).trans h1) ((PX_o hc.1 (by decide)).trans (h4.trans (by rw [List.length_set]))) ?_ (KSs_o hS (fun j => PX_o hc.1 (by decide)) (fun j => PX_o hc.1 (by decide))) hc.2.1⟩)
  rw [hc.2.2, set_td hr]
  congr 1
  omega
/-- a key is put in with its value -/
theorem K_keepN {c : CS} {s o : Nat} {M : AM} {k v : List Int32} (h : KM0 c s M) (w : wfM M) (hn : M.2.length < 128) (hk : k.length ≤ 32) (hv : v.length ≤ 100) (ha : kAt c o k) (hb : kAt c (o + k.length) v) : WP ((k_Machine_insertKey c s (Int32.ofNat (aRank M k)) (Int32.ofNat o) (Int32.ofNat k.length)).bind fun p8 => k_Machine_storeValue p8 s (Int32.ofNat (aRank M k)) (Int32.ofNat (o + k.length)) (Int32.ofNat v.length)) (fun c' => PX 10 s [4, 5, 6, 7, 8, 9] c c' ∧ KM0 c' s (M.1, M.2.take (aRank M k) ++ (k, v) :: M.2.drop (aRank M k))) := by
  obtain ⟨h1, h4, h5, hS, f, hK⟩ := KM0_f h
  have hr : aRank M k ≤ M.2.length := aRank_le
  have hsh := shL_wf w
  generalize aRank M k = r at hr
  refine WP_call (K_insert hK hsh hr hn hk ha h4 h5) (fun c1 hc => ?_)
  obtain ⟨P1, K1, e4, e5⟩ := hc
  have hg : ∀ i, (M.2.take r ++ (k, []) :: M.2.drop r).getD i ([], []) = if i < r then M.2.getD i ([], []) else if i = r then (k, []) else M.2.getD (i - 1) ([], []) := fun i => getD_ins hr
  have hlen : (M.2.take r ++ (k, []) :: M.2.drop r).length = M.2.length + 1 := by
    rw [List.length_append, List.length_cons, List.length_take, List.length_drop]
    omega
  have hsh1 : shL (M.2.take r ++ (k, []) :: M.2.drop r) := by
    refine ⟨by omega, fun i hi => ?_⟩
    rw [hlen] at hi
    rw [hg]
    by_cases z1 : i < r
    · rw [if_pos z1]
      exact hsh.2 i (by omega)
    · rw [if_neg z1]
      by_cases z2 : i = r
      · rw [if_pos z2]
        exact ⟨hk, Nat.zero_le _⟩
      · rw [if_neg z2]
        exact hsh.2 _ (by omega)
  have hgr := hg r
  rw [if_neg (by omega), if_pos rfl] at hgr
  have hset : (M.2.take r ++ (k, []) :: M.2.drop r).set r (k, v) = M.2.take r ++ (k, v) :: M.2.drop r := by
    have := @set_mid _ (k, ([] : List Int32)) (k, v) (M.2.take r) (M.2.drop r)
    rw [List.length_take, Nat.min_eq_left hr] at this
    exact this
  have hst := K_store (i := r) K1 hsh1 (by omega) hv (kAt_P hb P1) e5 (by rw [hgr]; exact Nat.le_add_left _ _)
  rw [hgr, hset] at hst
  refine WP_mono hst (fun c' hc => ⟨PX_t P1 (PX_w hc.1 (by decide)), KM0_b (f := fun i => f (gIns M.2.length r i)) ?_ ((PX_o hc.1 (by decide)).trans ((PX_o P1 (by decide)).trans h1)) ((PX_o hc.1 (by decide)).trans (e4.trans ?_)) ?_ (KSs_o hS (fun j => (PX_o hc.1 (by decide)).trans (PX_o P1 (by decide))) (fun j => (PX_o hc.1 (by decide)).trans (PX_o P1 (by decide)))) hc.2.1⟩)
  · show (M.2.take r ++ (k, v) :: M.2.drop r).length ≤ 128
    rw [List.length_append, List.length_cons, List.length_take, List.length_drop]
    omega
  · show Int32.ofNat (M.2.length + 1) = Int32.ofNat (M.2.take r ++ (k, v) :: M.2.drop r).length
    rw [List.length_append, List.length_cons, List.length_take, List.length_drop]
    congr 1
    omega
  · rw [hc.2.2, un_ins]
    congr 1
    show aUnits M + aUnit k.length 0 - aUnit k.length 0 + aUnit k.length v.length = aUnits M + aUnit k.length v.length
    omega
/-- what put leaves and answers -/
def opR (M : AM) (k v : List Int32) : AM × List Int32 := match aKeep M k v with
  | some M' => (M', match aFind M k with
    | some w => 1 :: w
    | none => [0])
  | none => (M, [2])
theorem K_put {F : Nat} {c : CS} {s o : Nat} {M : AM} {k v : List Int32} (hF : 200 ≤ F) (h : KM0 c s M) (w : wfM M) (hm : kMono M k) (hk : k.length ≤ 32) (hv : v.length ≤ 100) (bk : ∀ b ∈ k, aLow8 b = b) (ha : kAt c o k) (hb : kAt c (o + k.length) v) : WP (k_Machine_putKey F c s (Int32.ofNat o) (Int32.ofNat k.length) (Int32.ofNat v.length)) (fun c' => PX 10 s [4, 5, 6, 7, 8, 9, 10, 11] c c' ∧ KM0 c' s (opR M k v).1 ∧ ansIs c' s (opR M k v).2) := by
  obtain ⟨h1, h4, h5, hS, f, hK⟩ := KM0_f h
  have hsh := shL_wf w
  have hr : aRank M k ≤ M.2.length := aRank_le
  have h128 : M.2.length ≤ 128 := w.2.1
  have h700 : aUnits M ≤ 700 := w.1.2
  unfold k_Machine_putKey k_Machine_putKey_b0
  refine WP_eq (K_lower hF h w ha hm) (WP_eq (K_isKey hF h w ha (by omega)) ?_)
  rw [i_ad]
  have hle : ∀ r, r < M.2.length → aUnit (M.2.getD r ([], [])).1.length (M.2.getD r ([], [])).2.length ≤ aUnits M := by
    intro r hr
    unfold aUnits
    refine le_sum_mem _ _ (List.mem_map.mpr ⟨M.2.getD r ([], []), ?_, rfl⟩)
    rw [getD_g hr]
    exact List.getElem_mem _
  have fin : ∀ {c1 c2 : CS} {bs : List Int32} {M' : AM}, PX 10 s [10, 11] c c1 → ansIs c1 s bs → PX 10 s [4, 5, 6, 7, 8, 9] c1 c2 → KM0 c2 s M' → opR M k v = (M', bs) → PX 10 s [4, 5, 6, 7, 8, 9, 10, 11] c c2 ∧ KM0 c2 s (opR M k v).1 ∧ ansIs c2 s (opR M k v).2 := by
    intro c1 c2 bs M' g1 g2 g3 g4 g5
    rw [g5]
    exact ⟨PX_t (PX_w g1 (by decide)) (PX_w g3 (by decide)), g4, ans_P g2 g3 (by decide)⟩
  have no : opR M k v = (M, [2]) → WP ((k_Machine_say c s (2 : Int32) (-1 : Int32)).bind fun p38 => some p38) (fun c' => PX 10 s [4, 5, 6, 7, 8, 9, 10, 11] c c' ∧ KM0 c' s (opR M k v).1 ∧ ansIs c' s (opR M k v).2) := by
    intro e
    refine WP_call (K_say0 (c := c) (s := s) (x := 2)) (fun c1 hc => WP_some (fin hc.1 hc.2.1 PX_r (KM0_say h hc.1 (by decide)) ?_))
    rw [e]
    rfl
  rcases find2 w bk (by omega) with ⟨ef, ed⟩ | ⟨z, ek, ef, ed⟩
  · rw [ed]
    refine WP_eq (K_may hK hsh false (fun y => by cases y) h4 h5 (fun y => by cases y) (by omega) (by omega)) ?_
    rw [if_neg (show ¬ false = true by decide), Nat.sub_zero]
    have kn := keep_n (v := v) ef
    by_cases y : M.2.length = 128 ∨ 700 < aUnits M + aUnit k.length v.length
    · rw [if_pos y] at kn
      have : (false = false ∧ M.2.length = 128) ∨ 700 < aUnits M + (k.length + v.length + 15) / 16 := y.imp (fun u => ⟨rfl, u⟩) id
      rw [decide_eq_true this, if_neg (show ¬ xc0 .ne (aB (!true)) = true by decide)]
      refine no ?_
      unfold opR
      rw [kn]
    · rw [if_neg y] at kn
      have : ¬ ((false = false ∧ M.2.length = 128) ∨ 700 < aUnits M + (k.length + v.length + 15) / 16) := fun u => y (u.imp (fun u => u.2) id)
      rw [decide_eq_false this, if_pos (show xc0 .ne (aB (!false)) = true by decide), if_pos (show xc0 .eq (aB false) = true by decide)]
      unfold k_Machine_putKey_b50 k_Machine_putKey_b61 k_Machine_putKey_b77
      rw [if_pos (show xc0 .eq (aB false) = true by decide)]
      refine WP_call (K_say0 (c := c) (s := s) (x := 0)) (fun c1 hc => ?_)
      rw [if_neg (show ¬ xc0 .ne (aB false) = true by decide), i_ad]
      have := K_keepN (KM0_say h hc.1 (by decide)) w (by omega) hk hv (kAt_P ha hc.1) (kAt_P hb hc.1)
      obtain ⟨c2, e2, g1, g2⟩ := this
      cases ei : k_Machine_insertKey c1 s (Int32.ofNat (aRank M k)) (Int32.ofNat o) (Int32.ofNat k.length) with
      | none =>
        rw [ei] at e2
        exact absurd e2 (fun z => by cases (show (none : Option CS) = some c2 from z))
      | some p8 =>
        rw [ei] at e2
        refine WP_b (WP_eq e2 (WP_some (fin hc.1 hc.2.1 g1 g2 ?_)))
        unfold opR
        rw [kn, ef]
        rfl
  · rw [ed]
    refine WP_eq (K_may hK hsh true (fun _ => z) h4 h5 (fun _ => hle _ z) (by omega) (by omega)) ?_
    rw [if_pos (show true = true from rfl), ek]
    have kn := keep_f (v := v) z ef
    by_cases y : 700 < aUnits M - aUnit k.length (M.2.getD (aRank M k) ([], [])).2.length + aUnit k.length v.length
    · rw [if_pos y] at kn
      have : (true = false ∧ M.2.length = 128) ∨ 700 < aUnits M - aUnit k.length (M.2.getD (aRank M k) ([], [])).2.length + (k.length + v.length + 15) / 16 := Or.inr y
      rw [decide_eq_true this, if_neg (show ¬ xc0 .ne (aB (!true)) = true by decide)]
      refine no ?_
      unfold opR
      rw [kn]
    · rw [if_neg y] at kn
      have : ¬ ((true = false ∧ M.2.length = 128) ∨ 700 < aUnits M - aUnit k.length (M.2.getD (aRank M k) ([], [])).2.length + (k.length + v.length + 15) / 16) := fun u => u.elim (fun u => absurd u.1 (by decide)) y
      rw [decide_eq_false this, if_pos (show xc0 .ne (aB (!false)) = true by decide), if_neg (show ¬ xc0 .eq (aB true) = true by decide)]
      unfold k_Machine_putKey_b50 k_Machine_putKey_b61 k_Machine_putKey_b77
      rw [if_neg (show ¬ xc0 .eq (aB true) = true by decide)]
      refine WP_call (K_sayV (x := 1) h w z) (fun c1 hc => ?_)
      rw [if_pos (show xc0 .ne (aB true) = true by decide), i_ad]
      refine WP_call (K_keepF (KM0_say h hc.1 (by decide)) w z ek hv (kAt_P hb hc.1)) (fun c2 hc2 => WP_some (fin hc.1 hc.2 (PX_w hc2.1 (by decide)) hc2.2 ?_))
      unfold opR
      rw [kn, ef]
      rfl
