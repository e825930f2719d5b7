/-! entries on a page -/
theorem cal_g {c : CS} {q : Nat} : cal c 11 q 6 = cL c 11 q 6 ∧ cal c 11 q 7 = cL c 11 q 7 ∧ cal c 11 q 8 = cL c 11 q 8 := ⟨rfl, rfl, rfl⟩
theorem cext_n {c : CS} {cl i f n : Nat} {j : Int32} (hj : j = Int32.ofNat n) (h1 : n ≤ 1000000) (h2 : cL c cl i f < n) : cext c cl i f j = some (csG c cl i f n (fun y => if y < cL c cl i f then cI c cl i f y else 0)) := by
  subst hj
  unfold cext
  rw [i_cl (by omega), if_neg (fun z => z.elim (i_nn (by omega)) (fun y => y.elim (by omega) (by omega)))]
theorem csG_I {c : CS} {cl i f n : Nat} {v : Nat → Int32} {y : Nat} : cI (csG c cl i f n v) cl i f y = v y := if_pos ⟨rfl, rfl, rfl⟩
theorem csG_o {c : CS} {cl i f n : Nat} {v : Nat → Int32} {a b x : Nat} (h : ¬ (a = cl ∧ b = i ∧ x = f)) : Sm c (csG c cl i f n v) a b x := ⟨fun _ => if_neg h, fun _ => rfl, if_neg h, rfl⟩
theorem csG_L {c : CS} {cl i f n : Nat} {v : Nat → Int32} : cL (csG c cl i f n v) cl i f = n := if_pos ⟨rfl, rfl, rfl⟩
/-- what making room does -/
def RmP (c : CS) (q m : Nat) (c' : CS) : Prop := (∀ F, PG c q F → PG c' q F) ∧ (∀ v, KRm c v → KRm c' v) ∧ (∀ cl i f, ¬ (cl = 11 ∧ i = q ∧ (f = 6 ∨ f = 7)) → Sm c c' cl i f) ∧ (cT c).1 ≤ (cT c').1 ∧ m ≤ cL c' 11 q 7
def RmQ (c : CS) (q m : Nat) (c' : CS) : Prop := RmP c q m c' ∧ (∀ y, y < cL c 11 q 6 → cI c' 11 q 6 y = cI c 11 q 6 y) ∧ (∀ y, y < cL c 11 q 7 → cI c' 11 q 7 y = cI c 11 q 7 y) ∧ cL c' 11 q 6 = 6 * cL c' 11 q 7
theorem gA_room {c c' : CS} {q L n : Nat} {w : Nat → Nat} (hq : q < 210) (h6 : cL c 11 q 6 = 6 * cL c 11 q 7) (e7 : cL c 11 q 7 = L) (e6' : cL c' 11 q 6 = 6 * n) (e7' : cL c' 11 q 7 = n) (ho : ∀ cl i f, ¬ (cl = 11 ∧ i = q ∧ (f = 6 ∨ f = 7)) → cL c' cl i f = cL c cl i f) : gA w c' + w 0 * (7 * L) = gA w c + w 0 * (7 * n) := by
  unfold gA
  have h := sumN_upd (f := fun i => w 0 * cL c' 11 i 6 + w 0 * cL c' 11 i 7 + w 1 * cL c' 11 i 8) (g := fun i => w 0 * cL c 11 i 6 + w 0 * cL c 11 i 7 + w 1 * cL c 11 i 8) 210 hq (fun j _ hne => by
    rw [ho 11 j 6 (fun z => hne z.2.1), ho 11 j 7 (fun z => hne z.2.1), ho 11 j 8 (fun z => hne z.2.1)])
  simp only [e6', e7', h6, e7, ho 11 q 8 (fun z => by omega)] at h
  rw [sumN_eq (f := fun s => w 1 * cL c' 10 s 14 + w 2 * cL c' 13 s 18 + w 3 * cL c' 13 s 7) (g := fun s => w 1 * cL c 10 s 14 + w 2 * cL c 13 s 18 + w 3 * cL c 13 s 7) 7 (fun s _ => by rw [ho 10 s 14 (fun z => by omega), ho 13 s 18 (fun z => by omega), ho 13 s 7 (fun z => by omega)]), ho 4 0 2 (fun z => by omega), ho 4 0 3 (fun z => by omega), ho 14 0 15 (fun z => by omega), ho 14 0 16 (fun z => by omega)]
  have e1 : w 0 * (6 * n) + w 0 * n = w 0 * (7 * n) := by rw [← Nat.mul_add]; congr 1; omega
  have e2 : w 0 * (6 * L) + w 0 * L = w 0 * (7 * L) := by rw [← Nat.mul_add]; congr 1; omega
  omega
theorem K_makeRoomQ {c : CS} {q m : Nat} (hq : q < 210) (hq6 : 6 ≤ q % 30) (hm : m ≤ 322) (h6 : cL c 11 q 6 = 6 * cL c 11 q 7) (hc : cL c 11 q 7 ≤ 644) : WP (k_Page_makeRoom c q (Int32.ofNat m)) (RmQ c q m) := by
  unfold k_Page_makeRoom k_Page_makeRoom_b0 k_Page_makeRoom_b45
  rw [cal_g.2.1]
  refine WP_if (i_gei (by omega) (by omega)) (fun z => ?_) (fun z => ?_)
  · exact WP_some ⟨⟨fun _ h => h, fun _ h => h, fun _ _ _ _ => Sm_r, Nat.le_refl _, z⟩, fun _ _ => rfl, fun _ _ => rfl, h6⟩
  · have en : cmax 16 (2 * Int32.ofNat m) = Int32.ofNat (max 16 (2 * m)) := by
      rw [i_2]
      unfold cmax
      by_cases y : 16 < 2 * m
      · rw [if_pos, Nat.max_eq_right (by omega)]
        rw [Int32.lt_iff_toInt_lt, Int32.toInt_ofNat_of_lt (by omega)]
        have : (16 : Int32).toInt = 16 := by decide
        omega
      · rw [if_neg, Nat.max_eq_left (by omega)]
        · rfl
        · rw [Int32.lt_iff_toInt_lt, Int32.toInt_ofNat_of_lt (by omega)]
          have : (16 : Int32).toInt = 16 := by decide
          omega
    have hn : 16 ≤ max 16 (2 * m) ∧ 2 * m ≤ max 16 (2 * m) ∧ max 16 (2 * m) ≤ 644 := ⟨Nat.le_max_left _ _, Nat.le_max_right _ _, by rw [Nat.max_def]; split <;> omega⟩
    rw [en]
    generalize max 16 (2 * m) = n at hn
    refine WP_eq (cext_n rfl (by omega) (by omega)) ?_
    have e6 : cL (csG c 11 q 7 n (fun y => if y < cL c 11 q 7 then cI c 11 q 7 y else 0)) 11 q 6 = cL c 11 q 6 := (csG_o (fun z => by omega)).2.2.1
    rw [show Int32.ofNat n * 6 = Int32.ofNat (n * 6) from i_mc (s := 6)]
    refine WP_eq (cext_n rfl (by omega) (by rw [e6]; omega)) (WP_some ?_)
    rw [e6]
    have ho : ∀ cl i f, ¬ (cl = 11 ∧ i = q ∧ (f = 6 ∨ f = 7)) → Sm c (csG (csG c 11 q 7 n (fun y => if y < cL c 11 q 7 then cI c 11 q 7 y else 0)) 11 q 6 (n * 6) (fun y => if y < cL c 11 q 6 then cI (csG c 11 q 7 n (fun y => if y < cL c 11 q 7 then cI c 11 q 7 y else 0)) 11 q 6 y else 0)) cl i f := fun cl i f z => Sm_t (csG_o (fun w => z ⟨w.1, w.2.1, Or.inr w.2.2⟩)) (csG_o (fun w => z ⟨w.1, w.2.1, Or.inl w.2.2⟩))
    have l6 : cL (csG (csG c 11 q 7 n (fun y => if y < cL c 11 q 7 then cI c 11 q 7 y else 0)) 11 q 6 (n * 6) (fun y => if y < cL c 11 q 6 then cI (csG c 11 q 7 n (fun y => if y < cL c 11 q 7 then cI c 11 q 7 y else 0)) 11 q 6 y else 0)) 11 q 6 = n * 6 := csG_L
    have l7 : cL (csG (csG c 11 q 7 n (fun y => if y < cL c 11 q 7 then cI c 11 q 7 y else 0)) 11 q 6 (n * 6) (fun y => if y < cL c 11 q 6 then cI (csG c 11 q 7 n (fun y => if y < cL c 11 q 7 then cI c 11 q 7 y else 0)) 11 q 6 y else 0)) 11 q 7 = n := ((csG_o (fun z => by omega)).2.2.1).trans csG_L
    have i6 : ∀ y, y < cL c 11 q 6 → cI (csG (csG c 11 q 7 n (fun y => if y < cL c 11 q 7 then cI c 11 q 7 y else 0)) 11 q 6 (n * 6) (fun y => if y < cL c 11 q 6 then cI (csG c 11 q 7 n (fun y => if y < cL c 11 q 7 then cI c 11 q 7 y else 0)) 11 q 6 y else 0)) 11 q 6 y = cI c 11 q 6 y := fun y hy => csG_I.trans ((if_pos hy).trans ((csG_o (fun z => by omega)).1 y))
    have i7 : ∀ y, y < cL c 11 q 7 → cI (csG (csG c 11 q 7 n (fun y => if y < cL c 11 q 7 then cI c 11 q 7 y else 0)) 11 q 6 (n * 6) (fun y => if y < cL c 11 q 6 then cI (csG c 11 q 7 n (fun y => if y < cL c 11 q 7 then cI c 11 q 7 y else 0)) 11 q 6 y else 0)) 11 q 7 y = cI c 11 q 7 y := fun y hy => ((csG_o (fun z => by omega)).1 y).trans (csG_I.trans (if_pos hy))
    have eT : cT (csG (csG c 11 q 7 n (fun y => if y < cL c 11 q 7 then cI c 11 q 7 y else 0)) 11 q 6 (n * 6) (fun y => if y < cL c 11 q 6 then cI (csG c 11 q 7 n (fun y => if y < cL c 11 q 7 then cI c 11 q 7 y else 0)) 11 q 6 y else 0)) = ((cT c).1 + 1 + 1, (cT c).2 + n + n * 6) := rfl
    generalize csG (csG c 11 q 7 n (fun y => if y < cL c 11 q 7 then cI c 11 q 7 y else 0)) 11 q 6 (n * 6) (fun y => if y < cL c 11 q 6 then cI (csG c 11 q 7 n (fun y => if y < cL c 11 q 7 then cI c 11 q 7 y else 0)) 11 q 6 y else 0) = c' at ho l6 l7 i6 i7 eT
    refine ⟨⟨fun F hF => ?_, fun v hv => ?_, ho, by rw [eT]; show (cT c).1 ≤ (cT c).1 + 1 + 1; omega, by omega⟩, i6, i7, by omega⟩
    · obtain ⟨y0, y1, y2, y3, y4, y5, y6, y7, y8, y9, y10, y11⟩ := hF
      have o : ∀ f, f < 6 → cI c' 11 q f 0 = cI c 11 q f 0 := fun f hf => (ho 11 q f (fun z => by omega)).1 0
      exact ⟨(o 0 (by omega)).trans y0, (o 1 (by omega)).trans y1, (o 2 (by omega)).trans y2, (o 3 (by omega)).trans y3, (o 4 (by omega)).trans y4, (o 5 (by omega)).trans y5, fun i hi => ⟨fun j hj => (i6 _ (by omega)).trans ((y6 i hi).1 j hj), (i7 _ (by omega)).trans (y6 i hi).2⟩, by omega, by omega, y9, y10, y11⟩
    · obtain ⟨r1, r2, r3, r4⟩ := hv
      have n1 : nL c' v.1.1 = nL c v.1.1 := by
        unfold nL
        rw [(ho 14 0 15 (fun z => by omega)).2.2.2, (ho 14 0 16 (fun z => by omega)).2.2.2, sumN_eq (f := fun s => (cS c' 13 s 7).length) (g := fun s => (cS c 13 s 7).length) 7 (fun s _ => by rw [(ho 13 s 7 (fun z => by omega)).2.2.2])]
      have g1 := gA_room (w := gw1) hq h6 rfl (by rw [l6]; omega) l7 (fun cl i f z => (ho cl i f z).2.2.1)
      have g2 := gA_room (w := gw2) hq h6 rfl (by rw [l6]; omega) l7 (fun cl i f z => (ho cl i f z).2.2.1)
      have w1 : gw1 0 = 1 := rfl
      have w2 : gw2 0 = 2 := rfl
      rw [w1] at g1
      rw [w2] at g2
      obtain ⟨c1, c2, c3, c4, c5, c6⟩ := r4
      refine ⟨?_, ?_, by rw [n1]; exact r3, fun i hi => ?_, fun s hs => ?_, ?_, ?_, ?_, ?_⟩
      · rw [eT, n1]
        show 16 * ((cT c).1 + 1 + 1) ≤ _
        omega
      · rw [eT, n1]
        show (cT c).2 + n + n * 6 ≤ _
        omega
      · by_cases z : i = q
        · subst z
          obtain ⟨d1, d2, d3⟩ := c1 i hi
          rw [l6, l7, (ho 11 i 8 (fun z => by omega)).2.2.1, if_neg (by omega), if_neg (by omega)]
          exact ⟨by omega, by omega, d3⟩
        · rw [(ho 11 i 6 (fun w => z w.2.1)).2.2.1, (ho 11 i 7 (fun w => z w.2.1)).2.2.1, (ho 11 i 8 (fun w => z w.2.1)).2.2.1]
          exact c1 i hi
      · rw [(ho 10 s 14 (fun z => by omega)).2.2.1, (ho 13 s 18 (fun z => by omega)).2.2.1, (ho 13 s 7 (fun z => by omega)).2.2.1]
        exact c2 s hs
      · rw [(ho 4 0 2 (fun z => by omega)).2.2.1]
        exact c3
      · rw [(ho 4 0 3 (fun z => by omega)).2.2.1]
        exact c4
      · rw [(ho 14 0 15 (fun z => by omega)).2.2.1]
        exact c5
      · rw [(ho 14 0 16 (fun z => by omega)).2.2.1]
        exact c6
theorem K_makeRoom {c : CS} {q m : Nat} (hq : q < 210) (hq6 : 6 ≤ q % 30) (hm : m ≤ 322) (h6 : cL c 11 q 6 = 6 * cL c 11 q 7) (hc : cL c 11 q 7 ≤ 644) : WP (k_Page_makeRoom c q (Int32.ofNat m)) (RmP c q m) := WP_mono (K_makeRoomQ hq hq6 hm h6 hc) (fun _ h => h.1)
theorem cpg_6 : ∀ f, f < 16 → 4 ≤ f → 6 ≤ cpg f ∧ 6 ≤ ckp f := by decide
theorem pg_6 {s f : Nat} (hf : f < 16) (h4 : 4 ≤ f) : 6 ≤ (30 * s + cpg f) % 30 ∧ 6 ≤ (30 * s + ckp f) % 30 := by
  obtain ⟨h1, h2⟩ := cpg_b f hf
  obtain ⟨h3, h4⟩ := cpg_6 f hf h4
  omega
theorem cap_7 {c : CS} {v : CV} {q : Nat} (h : KRm c v) (hq : q < 210) : cL c 11 q 7 ≤ 644 := by
  have := (h.2.2.2.1 q hq).2.1
  split at this <;> omega
/-- an entry more on a page: what a whole file is then -/
theorem kPlus_w {F : AF} {e : AE} (hx : exF F) (h8 : (F.1 1).toInt ≤ 8000) (hw : ∀ x ∈ F.2.1, eOK x) (he : eOK e) : aWhole (aPlus F e) = aWhole F ++ [e] ∧ exF (aPlus F e) ∧ ((aPlus F e).1 1).toInt = (F.1 1).toInt + 25 + e.2.2.1.toInt ∧ ∀ x ∈ (aPlus F e).2.1, eOK x := by
  have hall : ∀ x ∈ aWhole F ++ [e], eOK x := fun x hx => (List.mem_append.mp hx).elim (fun z => hw x (aWhole_sub x z)) (fun z => by rw [List.mem_singleton.mp z]; exact he)
  have hs := exF_sum hx
  have h0 : 24 ≤ (F.1 1).toInt := by
    rw [hx]
    exact (aFrame_mono (k := 0) (l := 0) (eOK_25 hw) (Nat.le_refl _)).1 |> fun _ => (aFrame_mono (k := (aWhole F).length) (l := (aWhole F).length) (eOK_25 hw) (Nat.le_refl _)).1
  have e25 : (25 : Int32).toInt = 25 := by decide
  have hsz : ((aPlus F e).1 1).toInt = (F.1 1).toInt + 25 + e.2.2.1.toInt := by
    show (F.1 1 + 25 + e.2.2.1).toInt = _
    have := he.1
    have := he.2
    rw [i_addI, i_addI, e25]
    all_goals (try rw [i_addI]) <;> rw [e25] <;> omega
  have hsum : ((aWhole F ++ [e]).map aEsz).sum = ((aPlus F e).1 1).toInt - 24 := by
    rw [hsz, List.map_append, List.sum_append]
    show ((aWhole F).map aEsz).sum + (25 + e.2.2.1.toInt + 0) = _
    omega
  have hl : aWholes (aWhole F ++ [e]) (((aPlus F e).1 1).toInt - 24) = (aWhole F ++ [e]).length := aWholes_all _ _ (fun x hx => by have := eOK_25 hall x hx; omega) (by rw [hsum]; exact Int.le_refl _)
  have hwh : aWhole (aPlus F e) = aWhole F ++ [e] := by
    show (aWhole F ++ [e]).take (aWholes (aWhole F ++ [e]) (((aPlus F e).1 1).toInt - 24)) = _
    rw [hl, List.take_length]
  refine ⟨hwh, ?_, hsz, hall⟩
  unfold exF
  rw [hwh]
  show _ = aFrame (aWhole F ++ [e]) (aWhole F ++ [e]).length
  rw [aFrame_d, List.take_length, hsum]
  omega
/-- how many entries fit -/
theorem ex_320 {F : AF} (hx : exF F) (h8 : (F.1 1).toInt ≤ 8000) (hw : ∀ x ∈ F.2.1, eOK x) : (aWhole F).length ≤ 319 := by
  have hs := exF_sum hx
  have : ∀ l : List AE, (∀ x ∈ l, eOK x) → 25 * (l.length : Int) ≤ (l.map aEsz).sum := by
    intro l
    induction l with
    | nil => intro _; simp
    | cons x l ih =>
      intro h
      have h1 := ih (fun y hy => h y (List.mem_cons_of_mem _ hy))
      have h2 := eOK_25 h x List.mem_cons_self
      rw [List.map_cons, List.sum_cons, List.length_cons]
      omega
  have := this (aWhole F) (fun x hx => hw x (aWhole_sub x hx))
  omega
def gPageAdd (cl f : Nat) (σ : CS) (l0 : Nat) (l1 : Nat) (l2 : Int32) : Option (CS) :=
  (k_Page_makeRoom σ l0 ((cI σ 11 l0 5 0) + ((1 : Int32)))).bind fun p1 =>
  (ccpy p1 cl l1 f l2 11 l0 6 ((cI p1 11 l0 5 0) * ((6 : Int32))) ((6 : Int32))).bind fun σ5 =>
  (crd σ5 cl l1 f (l2 + ((2 : Int32)))).bind fun x7 =>
  (some (csI σ5 11 l0 1 0 ((cI σ5 11 l0 1 0) + (((25 : Int32)) + x7)))).bind fun σ9 =>
  (cwr σ9 11 l0 7 (cI σ9 11 l0 5 0) (cI σ9 11 l0 1 0)).bind fun σ11 =>
  (some (csI σ11 11 l0 5 0 ((cI σ11 11 l0 5 0) + ((1 : Int32))))).bind fun σ13 =>
  some σ13
theorem gPA_9 : k_Page_add_9_2 = gPageAdd 9 2 := rfl
theorem gPA_8 : k_Page_add_8_18 = gPageAdd 8 18 := rfl
theorem KRm_eq {c c' : CS} {v : CV} (hL : cL c' = cL c) (hS : cS c' = cS c) (hT : cT c' = cT c) (h : KRm c v) : KRm c' v := by
  have hn : nL c' v.1.1 = nL c v.1.1 := by
    unfold nL
    rw [hS]
  have hg : ∀ w, gA w c' = gA w c := fun w => by
    unfold gA
    rw [hL]
  obtain ⟨h1, h2, h3, h4⟩ := h
  refine ⟨by rw [hT, hn, hg]; exact h1, by rw [hT, hn, hg]; exact h2, by rw [hn]; exact h3, ?_⟩
  unfold KCap at h4 ⊢
  rw [hL]
  exact h4
theorem K_pageAdd {cl f l1 m : Nat} {c : CS} {a : AA} {v : CV} {s g : Nat} {e : AE} (h : RC c a v) (hs : s < 7) (hg : g < 16) (hg4 : 4 ≤ g) (hcl : cl = 9 ∧ f = 2 ∨ cl = 8 ∧ f = 18) (hm : m + 6 ≤ cal c cl l1 f) (hm2 : m + 6 < 2147483648) (hsrc : ∀ j, j < 6 → cI c cl l1 f (m + j) = kF e j) (he : eOK e) (hx : exF (aFc a s g)) (h8 : ((aFc a s g).1 1).toInt ≤ 8000) : WP (gPageAdd cl f c (30 * s + cpg g) l1 (Int32.ofNat m)) (fun c' => RC c' (aPut a s g (aPlus (aFc a s g) e)) v ∧ (∀ j, cI c' cl l1 f j = cI c cl l1 f j) ∧ cal c' cl l1 f = cal c cl l1 f) := by
  obtain ⟨y1, y2, y3, y4⟩ := h.2.2.2.2.2.2.2.2.2.1 s hs g hg
  obtain ⟨y10, y11, y12, y13, y14, y15, y16, y17, y18, y19, y110, y111⟩ := id y1
  obtain ⟨q1, q2⟩ := pg_t hs hg
  have q6 := (pg_6 (s := s) hg hg4).1
  have h319 := ex_320 hx h8 y111
  obtain ⟨k1, k2, k3, k4⟩ := kPlus_w hx h8 y111 he
  have ow : cOwn 11 (30 * s + cpg g) = s := (if_pos rfl).trans (pg_o hg).1
  unfold gPageAdd
  rw [y15, i_s]
  refine WP_call (K_makeRoom q1 q6 (by omega) y18 (cap_7 h.2.2.2.2.2.2.2.2.2.2.2.2.2.2.2.2.2.2.2.2.1 q1)) (fun p1 hp1 => ?_)
  obtain ⟨r1, r2, r3, r4, r5⟩ := hp1
  have o : ∀ g', ¬ (g' = 6 ∨ g' = 7) → ∀ j, cI p1 11 (30 * s + cpg g) g' j = cI c 11 (30 * s + cpg g) g' j := fun g' hg' j => (r3 _ _ g' (fun z => hg' z.2.2)).1 j
  have src1 : ∀ j, cI p1 cl l1 f j = cI c cl l1 f j := fun j => (r3 cl l1 f (fun z => by omega)).1 j
  have cal1 : cal p1 cl l1 f = cal c cl l1 f := by
    unfold cal
    rw [(r3 cl l1 f (fun z => by omega)).2.2.1]
  have pg1 := r1 _ y1
  rw [o 5 (by omega), y15, show Int32.ofNat (aWhole (aFc a s g)).length * 6 = Int32.ofNat ((aWhole (aFc a s g)).length * 6) from i_mc (s := 6)]
  have l6 : cL p1 11 (30 * s + cpg g) 6 = 6 * cL p1 11 (30 * s + cpg g) 7 := pg1.2.2.2.2.2.2.2.2.1
  refine WP_eq (ccpy_n (s := m) (t := (aWhole (aFc a s g)).length * 6) (n := 6) rfl rfl rfl (by rw [cal1]; exact hm) (by rw [cal_g.1]; omega) hm2 (by omega)) ?_
  generalize hc2 : csA p1 11 (30 * s + cpg g) 6 (fun w => if (aWhole (aFc a s g)).length * 6 ≤ w ∧ w < (aWhole (aFc a s g)).length * 6 + 6 then cI p1 cl l1 f (m + (w - (aWhole (aFc a s g)).length * 6)) else cI p1 11 (30 * s + cpg g) 6 w) = c2
  have a2 : ∀ a' b x j, ¬ (a' = 11 ∧ b = 30 * s + cpg g ∧ x = 6) → cI c2 a' b x j = cI p1 a' b x j := fun a' b x j z => by
    rw [← hc2]
    exact if_neg z
  have a6 : ∀ w, cI c2 11 (30 * s + cpg g) 6 w = if (aWhole (aFc a s g)).length * 6 ≤ w ∧ w < (aWhole (aFc a s g)).length * 6 + 6 then cI p1 cl l1 f (m + (w - (aWhole (aFc a s g)).length * 6)) else cI p1 11 (30 * s + cpg g) 6 w := fun w => by
    rw [← hc2]
    exact if_pos ⟨rfl, rfl, rfl⟩
  have aL : cL c2 = cL p1 ∧ cS c2 = cS p1 ∧ cJ c2 = cJ p1 ∧ cT c2 = cT p1 := by
    rw [← hc2]
    exact ⟨rfl, rfl, rfl, rfl⟩
  have cal2 : cal c2 cl l1 f = cal c cl l1 f := by
    rw [← cal1]
    unfold cal
    rw [aL.1]
  rw [show Int32.ofNat m + 2 = Int32.ofNat (m + 2) from i_ad (s := 2)]
  refine WP_eq (crd_n rfl (by rw [cal2]; omega) (by omega)) ?_
  rw [a2 cl l1 f _ (fun z => by omega), src1, hsrc 2 (by omega), a2 11 _ 1 0 (fun z => by omega), o 1 (by omega), y11]
  have esz : (aFc a s g).1 1 + (25 + kF e 2) = (aPlus (aFc a s g) e).1 1 := by
    show _ = (aFc a s g).1 1 + 25 + e.2.2.1
    rw [Int32.add_assoc]
    rfl
  rw [esz]
  refine WP_b ?_
  rw [csI_e, csI_f (show (5 : Nat) ≠ 1 by decide), a2 11 _ 5 0 (fun z => by omega), o 5 (by omega), y15]
  have cap7 : cal (csI c2 11 (30 * s + cpg g) 1 0 ((aPlus (aFc a s g) e).1 1)) 11 (30 * s + cpg g) 7 = cL p1 11 (30 * s + cpg g) 7 := by
    rw [cal_g.2.1]
    show cL c2 11 (30 * s + cpg g) 7 = _
    rw [aL.1]
  refine WP_eq (cwr_n rfl (by rw [cap7]; omega) (by omega)) (WP_b (WP_some ?_))
  rw [csI_f (show (5 : Nat) ≠ 7 by decide), csI_f (show (5 : Nat) ≠ 1 by decide), a2 11 _ 5 0 (fun z => by omega), o 5 (by omega), y15, i_s]
  generalize hc3 : csI (csI (csI c2 11 (30 * s + cpg g) 1 0 ((aPlus (aFc a s g) e).1 1)) 11 (30 * s + cpg g) 7 (aWhole (aFc a s g)).length ((aPlus (aFc a s g) e).1 1)) 11 (30 * s + cpg g) 5 0 (Int32.ofNat ((aWhole (aFc a s g)).length + 1)) = c3
  have aL3 : cL c3 = cL p1 ∧ cS c3 = cS p1 ∧ cJ c3 = cJ p1 ∧ cT c3 = cT p1 := by
    rw [← hc3]
    exact aL
  have o3 : ∀ a' b x j, ¬ (a' = 11 ∧ b = 30 * s + cpg g ∧ (x = 1 ∨ x = 5 ∨ x = 6 ∨ x = 7)) → cI c3 a' b x j = cI p1 a' b x j := fun a' b x j z => by
    rw [← hc3, csI_ne (fun w => z ⟨w.1, w.2.1, by omega⟩), csI_ne (fun w => z ⟨w.1, w.2.1, by omega⟩), csI_ne (fun w => z ⟨w.1, w.2.1, by omega⟩), a2 _ _ _ _ (fun w => z ⟨w.1, w.2.1, by omega⟩)]
  have s3 : ∀ a' b x, ¬ (a' = 11 ∧ b = 30 * s + cpg g ∧ (x = 1 ∨ x = 5 ∨ x = 6 ∨ x = 7)) → Sm c c3 a' b x := fun a' b x z => Sm_t (r3 a' b x (fun w => z ⟨w.1, w.2.1, by omega⟩)) ⟨fun j => o3 a' b x j z, fun j => by rw [aL3.2.2.1], by rw [aL3.1], by rw [aL3.2.1]⟩
  have v1 : cI c3 11 (30 * s + cpg g) 1 0 = (aPlus (aFc a s g) e).1 1 := by
    rw [← hc3, csI_f (by decide), csI_f (by decide), csI_e]
  have v5 : cI c3 11 (30 * s + cpg g) 5 0 = Int32.ofNat ((aWhole (aFc a s g)).length + 1) := by
    rw [← hc3, csI_e]
  have v6 : ∀ w, cI c3 11 (30 * s + cpg g) 6 w = if (aWhole (aFc a s g)).length * 6 ≤ w ∧ w < (aWhole (aFc a s g)).length * 6 + 6 then cI p1 cl l1 f (m + (w - (aWhole (aFc a s g)).length * 6)) else cI p1 11 (30 * s + cpg g) 6 w := fun w => by
    rw [← hc3, csI_f (by decide), csI_f (by decide), csI_f (by decide), a6]
  have v7 : ∀ i, cI c3 11 (30 * s + cpg g) 7 i = if i = (aWhole (aFc a s g)).length then (aPlus (aFc a s g) e).1 1 else cI p1 11 (30 * s + cpg g) 7 i := fun i => by
    rw [← hc3, csI_f (by decide)]
    by_cases z : i = (aWhole (aFc a s g)).length
    · rw [if_pos z, z, csI_e]
    · rw [if_neg z, csI_j z, csI_f (by decide), a2 _ _ _ _ (fun w => by omega)]
  have hgk : ckp g ≠ cpg g := fun z => by
    have := ((cpg_i g hg g hg).2.2.mp z.symm).2
    omega
  have hF : Ck PD s c c3 := by
    intro a' b x hx' z
    refine s3 a' b x (fun w => ?_)
    obtain ⟨rfl, rfl, w3⟩ := w
    rcases z with z | ⟨_, z⟩
    · exact z (by rcases w3 with rfl | rfl | rfl | rfl <;> decide)
    · exact z ow
  have hT : (cT c).1 ≤ (cT c3).1 := by
    rw [aL3.2.2.2]
    exact r4
  have hr : KRm c3 v := KRm_eq aL3.1 aL3.2.1 aL3.2.2.2 (r2 v h.2.2.2.2.2.2.2.2.2.2.2.2.2.2.2.2.2.2.2.2.1)
  have key := RC_pgc (F := aPlus (aFc a s g) e) (x := aS a 43 (16 * s + g)) h hs hg ⟨by omega, by omega⟩ (fun y => by omega) hF hT hr ?_ ?_ ?_ ?_ ?_ ?_
  · rw [aI_same (show aS (aPut a s g (aPlus (aFc a s g) e)) 43 (16 * s + g) = aS a 43 (16 * s + g) from rfl)] at key
    exact ⟨key, fun j => (o3 _ _ _ _ (fun z => by omega)).trans (src1 j), by rw [← cal1]; unfold cal; rw [aL3.1]⟩
  · obtain ⟨z0, z1, z2, z3, z4, z5, z6, z7, z8, z9, z10, z11⟩ := pg1
    have el : (aWhole (aPlus (aFc a s g) e)).length = (aWhole (aFc a s g)).length + 1 := by
      rw [k1, List.length_append, List.length_singleton]
    refine ⟨(o3 _ _ _ _ (fun z => by omega)).trans z0, v1, (o3 _ _ _ _ (fun z => by omega)).trans z2, (o3 _ _ _ _ (fun z => by omega)).trans z3, (o3 _ _ _ _ (fun z => by omega)).trans z4, by rw [v5, el], fun i hi => ⟨fun j hj => ?_, ?_⟩, ?_, ?_, z9, by omega, k4⟩
    · rw [v6, k1]
      rw [el] at hi
      by_cases z : i = (aWhole (aFc a s g)).length
      · subst z
        rw [if_pos (by omega), show m + (6 * (aWhole (aFc a s g)).length + j - (aWhole (aFc a s g)).length * 6) = m + j by omega, src1, hsrc j hj, List.getD_eq_getElem?_getD, List.getElem?_append_right (Nat.le_refl _), Nat.sub_self]
        rfl
      · rw [if_neg (by omega), (z6 i (by omega)).1 j hj, List.getD_eq_getElem?_getD, List.getD_eq_getElem?_getD, List.getElem?_append_left (by omega)]
    · rw [v7]
      rw [el] at hi
      by_cases z : i = (aWhole (aFc a s g)).length
      · rw [if_pos z, z]
        have hx2 := k2
        unfold exF at hx2
        rw [el] at hx2
        rw [← hx2, Int32.ofInt_toInt]
      · rw [if_neg z, (z6 i (by omega)).2]
        congr 1
        rw [aFrame_d, aFrame_d]
        show _ = 24 + (((aWhole (aFc a s g) ++ [e]).take (i + 1)).map aEsz).sum
        rw [List.take_append_of_le_length (by omega)]
        have e1 : (aWhole (aFc a s g)).take (i + 1) = (aFc a s g).2.1.take (i + 1) := by
          have := aWhole_len (F := aFc a s g)
          unfold aWhole
          rw [take_min (by omega)]
        rw [e1]
    · rw [el, aL3.1]
      omega
    · rw [aL3.1]
      exact z8
  · exact PG_fr (c := c) (fun w hw => s3 _ _ _ (fun z => by omega)) y2
  · obtain ⟨mm, m1, m2, m3, m4⟩ := y3 (by omega) (by omega)
    refine ⟨mm, (o3 _ _ _ _ (fun z => by omega)).trans (((r3 _ _ _ (fun z => by omega)).1 g).trans m1), by rw [k1, List.length_append]; omega, m3, ?_⟩
    rw [k1, List.take_append_of_le_length m2]
    exact m4
  · intro q w hq n1 n2 hw
    exact s3 _ _ _ (fun z => n1 z.2.1)
  · intro w hw hne
    exact (o3 _ _ _ _ (fun z => by omega)).trans ((r3 _ _ _ (fun z => by omega)).1 w)
  · intro w hw
    have e1 : cI c3 6 s 2 w = cI c 6 s 2 w := (o3 _ _ _ _ (fun z => by omega)).trans ((r3 _ _ _ (fun z => by omega)).1 w)
    rw [e1]
    by_cases z : w = g
    · rw [if_pos z, z]
      exact h.2.2.2.2.2.2.2.1 s hs g hg
    · rw [if_neg z]
