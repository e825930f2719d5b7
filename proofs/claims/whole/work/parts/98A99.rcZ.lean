/-! THE AGREEMENT HERE: terms, codes and majorities of the agreed store for parts 60-64 -/
def gN (x : Int32) : Nat := x.toNatClampNeg
def gtm (e : AE) : Nat := gN e.1
def gmc (e : AE) : Option Nat := if e.2.1 = 1 then some (gN e.2.2.2.1) else none
/-- more than half of a set are in Q -/
def gHalf (m : Int32) (Q : Nat → Bool) : Prop := aCnt m < 2 * ((List.range 7).filter (fun p => aIn m p && Q p)).length
def gMaj (c : Int32) (Q : Nat → Bool) : Prop := gHalf (aOldM c) Q ∧ (aNewM c = 0 ∨ gHalf (aNewM c) Q)
def gquo (C : Nat) (Q : Nat → Bool) : Prop := gMaj (Int32.ofNat C) Q
def gsu (c d : Int32) : Prop := (aNewM c = 0 ∧ aOldM d = aOldM c) ∨ (¬ aNewM c = 0 ∧ aOldM d = aNewM c ∧ aNewM d = 0)
def gsuc (C D : Nat) : Prop := gsu (Int32.ofNat C) (Int32.ofNat D)
section GQ
theorem gHalf_c {m : Int32} {Q Q' : Nat → Bool} (h : gHalf m Q) (h' : gHalf m Q') : ∃ v, Q v = true ∧ Q' v = true := by
  by_cases q : ∃ v, Q v = true ∧ Q' v = true
  · exact q
  exfalso
  have key : ∀ l : List Nat, (l.filter (fun p => aIn m p && Q p)).length + (l.filter (fun p => aIn m p && Q' p)).length ≤ (l.filter (aIn m)).length := by
    intro l
    induction l with
    | nil => exact Nat.le_refl _
    | cons p l ih =>
      rw [List.filter_cons, List.filter_cons, List.filter_cons]
      cases h1 : aIn m p with
      | false => simpa using ih
      | true =>
        cases h2 : Q p with
        | false =>
          cases h3 : Q' p with
          | false => simp; omega
          | true => simp; omega
        | true =>
          cases h3 : Q' p with
          | false => simp; omega
          | true => exact absurd ⟨p, h2, h3⟩ q
  have := key (List.range 7)
  unfold gHalf at h h'
  unfold aCnt at h h'
  omega
theorem gI (C D D' : Nat) (Q Q' : Nat → Bool) (hD : D = C ∨ gsuc C D) (hD' : D' = C ∨ gsuc C D') (h : gquo D Q) (h' : gquo D' Q') : ∃ v, Q v = true ∧ Q' v = true := by
  have key : ∀ (D : Nat) (Q : Nat → Bool), (D = C ∨ gsuc C D) → gquo D Q → gHalf (if aNewM (Int32.ofNat C) = 0 then aOldM (Int32.ofNat C) else aNewM (Int32.ofNat C)) Q := by
    intro D Q hD h
    by_cases z : aNewM (Int32.ofNat C) = 0
    · rw [if_pos z]
      rcases hD with rfl | ⟨-, e⟩ | ⟨n, -⟩
      · exact h.1
      · rw [← e]
        exact h.1
      · exact absurd z n
    · rw [if_neg z]
      rcases hD with rfl | ⟨n, -⟩ | ⟨-, e, -⟩
      · exact h.2.resolve_left z
      · exact absurd n z
      · rw [← e]
        exact h.1
  exact gHalf_c (key D Q hD h) (key D' Q' hD' h')
theorem gHalf_and {m x : Int32} : ((List.range 7).filter (fun p => aIn m p && aIn x p)).length = aCnt (x &&& m) := by
  unfold aCnt
  congr 1
  refine List.filter_congr (fun p hp => ?_)
  rw [aIn_and (by have := List.mem_range.mp hp; omega)]
  exact Bool.and_comm _ _
theorem gMaj_i {c x : Int32} (h : aMaj c x = true) : gMaj c (aIn x) := by
  unfold aMaj at h
  obtain ⟨h1, h2⟩ := Bool.and_eq_true_iff.mp h
  refine ⟨?_, ?_⟩
  · unfold gHalf
    rw [gHalf_and]
    exact of_decide_eq_true h1
  · rcases Bool.or_eq_true_iff.mp h2 with q | q
    · exact Or.inl (of_decide_eq_true q)
    · refine Or.inr ?_
      unfold gHalf
      rw [gHalf_and]
      exact of_decide_eq_true q
/-- what counts are those below seven -/
theorem gHalf_m {m : Int32} {Q Q' : Nat → Bool} (h : gHalf m Q) (k : ∀ p, p < 7 → Q p = true → Q' p = true) : gHalf m Q' := by
  unfold gHalf at h ⊢
  refine Nat.lt_of_lt_of_le h (Nat.mul_le_mul_left 2 ?_)
  have key : ∀ l : List Nat, (∀ p ∈ l, p < 7) → (l.filter (fun p => aIn m p && Q p)).length ≤ (l.filter (fun p => aIn m p && Q' p)).length := by
    intro l
    induction l with
    | nil => exact fun _ => Nat.le_refl _
    | cons p l ih =>
      intro hl
      have ih := ih (fun q hq => hl q (List.mem_cons_of_mem _ hq))
      have hp := k p (hl p List.mem_cons_self)
      rw [List.filter_cons, List.filter_cons]
      cases h1 : aIn m p with
      | false => simpa using ih
      | true =>
        cases h2 : Q p with
        | false =>
          cases h3 : Q' p with
          | false => simpa using ih
          | true => simp; omega
        | true =>
          rw [hp h2]
          simp
          exact ih
  exact key _ (fun p hp => List.mem_range.mp hp)
theorem gMaj_m {c : Int32} {Q Q' : Nat → Bool} (h : gMaj c Q) (k : ∀ p, p < 7 → Q p = true → Q' p = true) : gMaj c Q' := ⟨gHalf_m h.1 k, h.2.imp id (fun z => gHalf_m z k)⟩
/-- a majority has somebody below seven -/
theorem gMaj_ex {c : Int32} {Q : Nat → Bool} (h : gMaj c Q) : ∃ p, p < 7 ∧ Q p = true := by
  have h1 := h.1
  unfold gHalf at h1
  obtain ⟨p, hp⟩ := List.exists_mem_of_length_pos (l := (List.range 7).filter (fun p => aIn (aOldM c) p && Q p)) (by omega)
  obtain ⟨a1, a2⟩ := List.mem_filter.mp hp
  exact ⟨p, List.mem_range.mp a1, (Bool.and_eq_true_iff.mp a2).2⟩
/-- codes are numbers -/
theorem gN_of {c : Int32} (h : 0 ≤ c) : Int32.ofNat (gN c) = c := by
  have h0 : 0 ≤ c.toInt := Int32.le_iff_toInt_le.mp h
  have hlt := Int32.toInt_lt c
  apply Int32.toInt_inj.mp
  show (Int32.ofNat c.toInt.toNat).toInt = _
  rw [Int32.toInt_ofNat_of_lt (by omega)]
  omega
theorem gN_i {c : Int32} (h : 0 ≤ c) : (gN c : Int) = c.toInt := by
  have h0 : 0 ≤ c.toInt := Int32.le_iff_toInt_le.mp h
  show ((c.toInt.toNat : Nat) : Int) = _
  omega
theorem gN_n {n : Nat} (h : n < 2147483648) : gN (Int32.ofNat n) = n := by
  show (Int32.ofNat n).toInt.toNat = n
  rw [Int32.toInt_ofNat_of_lt h]
  exact Int.toNat_natCast n
/-- the members of a log by its entries: as the class counts them and as the agreement does -/
theorem memC_cf : ∀ (l : List AE) (c : Int32), 0 ≤ c → (∀ e ∈ l, e.2.1 = 1 → 0 ≤ e.2.2.2.1) → 0 ≤ aMemC c l ∧ gN (aMemC c l) = rcf gmc (gN c) l := by
  intro l
  induction l with
  | nil => exact fun c h _ => ⟨h, rfl⟩
  | cons e l ih =>
    intro c hc he
    have hl := fun x hx => he x (List.mem_cons_of_mem e hx)
    have h1 := he e List.mem_cons_self
    by_cases q : e.2.1 = 1
    · obtain ⟨i1, i2⟩ := ih e.2.2.2.1 (h1 q) hl
      have e1 : aMemC c (e :: l) = aMemC e.2.2.2.1 l := by
        show aMemC (if e.2.1 = 1 then e.2.2.2.1 else c) l = _
        rw [if_pos q]
      rw [e1]
      refine ⟨i1, i2.trans ?_⟩
      show _ = ((e :: l).foldl (fun c x => (gmc x).getD c) (gN c))
      rw [List.foldl_cons]
      rw [show (gmc e).getD (gN c) = gN e.2.2.2.1 by unfold gmc; rw [if_pos q]; rfl]
      rfl
    · obtain ⟨i1, i2⟩ := ih c hc hl
      have e1 : aMemC c (e :: l) = aMemC c l := by
        show aMemC (if e.2.1 = 1 then e.2.2.2.1 else c) l = _
        rw [if_neg q]
      rw [e1]
      refine ⟨i1, i2.trans ?_⟩
      show _ = ((e :: l).foldl (fun c x => (gmc x).getD c) (gN c))
      rw [List.foldl_cons]
      rw [show (gmc e).getD (gN c) = gN c by unfold gmc; rw [if_neg q]; rfl]
      rfl
/-- behind the last entry of kind MEMBERS there is none -/
theorem memAt_nm : ∀ (l : List AE) , aMemAt l ≤ l.length ∧ ∀ e ∈ l.drop (aMemAt l), gmc e = none := by
  intro l
  induction l with
  | nil => exact ⟨Nat.le_refl _, fun e he => absurd he (by simp)⟩
  | cons x l ih =>
    have e1 : aMemAt (x :: l) = if 0 < aMemAt l then aMemAt l + 1 else if x.2.1 = 1 then 1 else 0 := rfl
    rw [e1]
    by_cases q : 0 < aMemAt l
    · rw [if_pos q]
      exact ⟨by rw [List.length_cons]; omega, fun e he => ih.2 e (by rw [List.drop_succ_cons] at he; exact he)⟩
    · rw [if_neg q]
      have z : aMemAt l = 0 := by omega
      by_cases w : x.2.1 = 1
      · rw [if_pos w]
        refine ⟨by rw [List.length_cons]; omega, fun e he => ih.2 e ?_⟩
        rw [z]
        rw [List.drop_succ_cons] at he
        exact he
      · rw [if_neg w]
        refine ⟨Nat.zero_le _, fun e he => ?_⟩
        rcases List.mem_cons.mp he with rfl | he
        · unfold gmc
          rw [if_neg w]
        · exact ih.2 e (by rw [z]; exact he)
end GQ
/-! the machine that comes of a path -/
def gmF (K : List AK) : Nat → AM → List AE → AM
  | _, M, [] => M
  | n, M, e :: r => gmF K (n + 1) (if e.2.1 = 2 then (aPerf K M (Int32.ofNat (n + 1)) e).1 else M) r
def gmch (K : List AK) (p : List AE) : AM := gmF K 0 ([], []) p
section GM
theorem gmF_app {K : List AK} : ∀ (p q : List AE) (n : Nat) (M : AM), gmF K n M (p ++ q) = gmF K (n + p.length) (gmF K n M p) q := by
  intro p
  induction p with
  | nil => exact fun q n M => rfl
  | cons e p ih =>
    intro q n M
    show gmF K (n + 1) _ (p ++ q) = gmF K (n + (p.length + 1)) (gmF K (n + 1) _ p) q
    rw [ih, show n + (p.length + 1) = n + 1 + p.length by omega]
theorem gmch_1 {K : List AK} {p : List AE} {e : AE} : gmch K (p ++ [e]) = if e.2.1 = 2 then (aPerf K (gmch K p) (Int32.ofNat (p.length + 1)) e).1 else gmch K p := by
  unfold gmch
  rw [gmF_app, Nat.zero_add]
  rfl
/-- an entry's asking stands in the row -/
def gK1 (K : List AK) (e : AE) : Prop := e.2.1 = 2 → e.2.2.2.2.2 = -1 ∨ e.2.2.2.2.2.toNatClampNeg < K.length
def gKle (K K' : List AK) : Prop := K.length ≤ K'.length ∧ ∀ j, j < K.length → kAgr K K' j
theorem gKle_r {K : List AK} : gKle K K := ⟨Nat.le_refl _, fun _ _ => ⟨rfl, rfl, rfl, rfl⟩⟩
theorem gKle_t {K K' K2 : List AK} (h : gKle K K') (h' : gKle K' K2) : gKle K K2 := by
  refine ⟨Nat.le_trans h.1 h'.1, fun j hj => ?_⟩
  obtain ⟨a1, a2, a3, a4⟩ := h.2 j hj
  obtain ⟨b1, b2, b3, b4⟩ := h'.2 j (Nat.lt_of_lt_of_le hj h.1)
  exact ⟨b1.trans a1, b2.trans a2, b3.trans a3, b4.trans a4⟩
theorem perf_K {K K' : List AK} {M : AM} {n : Int32} {e : AE} (h : gKle K K') (he : gK1 K e) (h2 : e.2.1 = 2) : aPerf K' M n e = aPerf K M n e := by
  unfold aPerf
  by_cases q : e.2.2.2.2.2 = -1
  · rw [if_pos q, if_pos q]
  · rw [if_neg q, if_neg q]
    obtain ⟨a1, a2, a3, a4⟩ := h.2 _ ((he h2).resolve_left q)
    have e0 : aK0 = ((fun _ => 0, []) : AK) := rfl
    rw [e0] at a1 a2 a3 a4
    cases aSesOf M e.2.2.2.1 with
    | none => rfl
    | some i =>
      dsimp only
      rw [a1, a2, a3, a4]
theorem gmF_K {K K' : List AK} (h : gKle K K') : ∀ (p : List AE) (n : Nat) (M : AM), (∀ e ∈ p, gK1 K e) → gmF K' n M p = gmF K n M p := by
  intro p
  induction p with
  | nil => exact fun _ _ _ => rfl
  | cons e p ih =>
    intro n M he
    show gmF K' (n + 1) _ p = gmF K (n + 1) _ p
    rw [ih _ _ (fun x hx => he x (List.mem_cons_of_mem _ hx))]
    by_cases q : e.2.1 = 2
    · rw [if_pos q, if_pos q, perf_K h (he e List.mem_cons_self) q]
    · rw [if_neg q, if_neg q]
theorem gmch_K {K K' : List AK} (h : gKle K K') {p : List AE} (hp : ∀ e ∈ p, gK1 K e) : gmch K' p = gmch K p := gmF_K h p 0 _ hp
end GM
/-! machines of paths are well formed -/
theorem open_wf {M : AM} {n : Int32} (w : wfMc M) (hb : sBel M n) (hn : 0 ≤ n) : wfMc (aOpen M n) := by
  have h16 : M.1.length ≤ 16 := w.1.1.1
  by_cases z16 : M.1.length = 16
  · have ea : aOpen M n = ((M.1.set (aOldest M.1) (M.1.getD 15 aN0)).take 15 ++ [(n, n, 0, 0, [])], M.2) := by
      unfold aOpen
      dsimp only
      rw [if_pos z16]
      rfl
    have ho := aOldest_spec M.1 (fun y => by rw [y] at z16; cases z16)
    have hp2 := take_perm z16 (show aOldest M.1 < 16 by have := ho.1; omega)
    have hsub : ∀ x ∈ (M.1.set (aOldest M.1) (M.1.getD 15 aN0)).take 15, x ∈ M.1 := fun x hx => List.mem_of_mem_eraseIdx (hp2.mem_iff.mp hx)
    rw [ea]
    have nd : ∀ f : AN → Int32, (M.1.map f).Nodup → (((M.1.set (aOldest M.1) (M.1.getD 15 aN0)).take 15).map f).Nodup := fun f hf => (hp2.map f).nodup_iff.mpr (hf.sublist ((List.eraseIdx_sublist _ _).map f))
    refine wfMc_app w hb hn hsub (nd _ w.2.2.1) (nd _ w.2.2.2.1) ?_
    rw [List.length_take]
    omega
  · have ea : aOpen M n = (M.1 ++ [(n, n, 0, 0, [])], M.2) := by
      unfold aOpen
      dsimp only
      rw [if_neg z16]
    rw [ea]
    exact wfMc_app w hb hn (fun x hx => hx) w.2.2.1 w.2.2.2.1 (by omega)
theorem ite_some {α : Type} {c : Prop} [Decidable c] {x y : α} (h : (if c then none else some x) = some y) : y = x := by
  by_cases q : c
  · rw [if_pos q] at h
    cases h
  · rw [if_neg q] at h
    exact (Option.some.inj h).symm
theorem keep_ses {M M' : AM} {k v : List Int32} (e : aKeep M k v = some M') : M'.1 = M.1 := by
  unfold aKeep at e
  dsimp only at e
  have h := ite_some e
  subst h
  rfl
theorem op_ses {M : AM} {kd : Int32} {k v : Nat} {b : List Int32} : (aOp M kd k v b).1.1 = M.1 := by
  unfold aOp
  dsimp only
  split
  · split
    · rename_i h
      exact keep_ses h
    · rfl
  · split
    · split
      · rfl
      · split
        · split
          · rename_i h
            exact keep_ses h
          · rfl
        · rfl
    · split
      · rfl
      · rfl
theorem perf_wf {K : List AK} {M : AM} {n : Int32} {e : AE} (w : wfMc M) (hb : sBel M n) (hn : 0 ≤ n) (hK : ∀ k ∈ K, wfK k) (hA : e.2.2.2.2.2 = -1 ∨ (e.2.2.2.2.2.toNatClampNeg < K.length ∧ (K.getD e.2.2.2.2.2.toNatClampNeg (fun _ => 0, [])).1 1 < 3)) : wfMc (aPerf K M n e).1 := by
  unfold aPerf
  by_cases z : e.2.2.2.2.2 = -1
  · rw [if_pos z]
    exact open_wf w hb hn
  · rw [if_neg z]
    obtain ⟨j2, j4⟩ := hA.resolve_left z
    cases hi : aSesOf M e.2.2.2.1 with
    | none => exact w
    | some i =>
      have hil : i < M.1.length := by
        unfold aSesOf at hi
        rw [List.findIdx?_eq_some_iff_getElem] at hi
        exact hi.1
      have hxm : M.1.getD i (0, 0, 0, 0, []) ∈ M.1 := by
        have : M.1.getD i (0, 0, 0, 0, []) = M.1[i] := getD_N hil
        rw [this]
        exact List.getElem_mem hil
      have w1 : wfMc (M.1.set i ((M.1.getD i (0, 0, 0, 0, [])).1, n, (M.1.getD i (0, 0, 0, 0, [])).2.2), M.2) := wfMc_set (z := (M.1.getD i (0, 0, 0, 0, [])).2.2) w hb hn hil ⟨w.2.1 _ hxm, (w.1.2.2.1 _ hxm).2⟩
      dsimp only
      by_cases q1 : e.2.2.2.2.1 < (M.1.getD i (0, 0, 0, 0, [])).2.2.1
      · rw [if_pos q1]
        exact w1
      · rw [if_neg q1]
        by_cases q2 : e.2.2.2.2.1 = (M.1.getD i (0, 0, 0, 0, [])).2.2.1
        · rw [if_pos q2]
          exact w1
        · rw [if_neg q2]
          have hkm : K.getD e.2.2.2.2.2.toNatClampNeg (fun _ => 0, []) ∈ K := by
            rw [List.getD_eq_getElem?_getD, List.getElem?_eq_getElem j2]
            exact List.getElem_mem j2
          have wop := wfM_op w1.1 (hK _ hkm) j4
          have aop := aOp_ans (kd := (K.getD e.2.2.2.2.2.toNatClampNeg (fun _ => 0, [])).1 1) (k := ((K.getD e.2.2.2.2.2.toNatClampNeg (fun _ => 0, [])).1 7).toNatClampNeg) (v := ((K.getD e.2.2.2.2.2.toNatClampNeg (fun _ => 0, [])).1 8).toNatClampNeg) (b := (K.getD e.2.2.2.2.2.toNatClampNeg (fun _ => 0, [])).2) w1.1
          have ses := op_ses (M := (M.1.set i ((M.1.getD i (0, 0, 0, 0, [])).1, n, (M.1.getD i (0, 0, 0, 0, [])).2.2), M.2)) (kd := (K.getD e.2.2.2.2.2.toNatClampNeg (fun _ => 0, [])).1 1) (k := ((K.getD e.2.2.2.2.2.toNatClampNeg (fun _ => 0, [])).1 7).toNatClampNeg) (v := ((K.getD e.2.2.2.2.2.toNatClampNeg (fun _ => 0, [])).1 8).toNatClampNeg) (b := (K.getD e.2.2.2.2.2.toNatClampNeg (fun _ => 0, [])).2)
          generalize aOp (M.1.set i ((M.1.getD i (0, 0, 0, 0, [])).1, n, (M.1.getD i (0, 0, 0, 0, [])).2.2), M.2) ((K.getD e.2.2.2.2.2.toNatClampNeg (fun _ => 0, [])).1 1) ((K.getD e.2.2.2.2.2.toNatClampNeg (fun _ => 0, [])).1 7).toNatClampNeg ((K.getD e.2.2.2.2.2.toNatClampNeg (fun _ => 0, [])).1 8).toNatClampNeg (K.getD e.2.2.2.2.2.toNatClampNeg (fun _ => 0, [])).2 = r at wop aop ses
          have ses : r.1.1 = M.1.set i ((M.1.getD i (0, 0, 0, 0, [])).1, n, (M.1.getD i (0, 0, 0, 0, [])).2.2) := ses
          rw [ses, List.set_set]
          have w0 : wfMc (M.1, r.1.2) := ⟨⟨⟨w.1.1.1, wop.1.2⟩, wop.2.1, w.1.2.2.1, wop.2.2.2⟩, w.2⟩
          exact wfMc_set (M := (M.1, r.1.2)) (z := (e.2.2.2.2.1, n, r.2)) w0 hb hn hil aop
theorem wfK_len {k : AK} (w : wfK k) : k.2.length ≤ 300 := Nat.le_trans (askable_l w.2.1 w.1) (by decide)
theorem aSize_n {M : AM} : aSize M = (aEnc M).length := by
  rw [aEnc_e, List.length_append, List.length_append, List.length_append]
  have h1 : ∀ L : List AN, (L.flatMap sEnc).length = (L.map (fun x => 18 + x.2.2.2.2.length)).sum := by
    intro L
    induction L with
    | nil => rfl
    | cons x r ih => rw [List.flatMap_cons, List.length_append, sEnc_l, ih, List.map_cons, List.sum_cons]
  have h2 : ∀ L : List (List Int32 × List Int32), (L.flatMap kEnc).length = (L.map (fun e => 3 + e.1.length + e.2.length)).sum := by
    intro L
    induction L with
    | nil => rfl
    | cons x r ih => rw [List.flatMap_cons, List.length_append, kEnc_l, ih, List.map_cons, List.sum_cons]
  rw [h1, h2]
  unfold aSize
  have e4 : ∀ v : Int32, (a4 v).length = 4 := fun _ => rfl
  rw [e4, e4]
  omega
/-! the agreement: acknowledgements of what is agreed already in a later term (they may speak of entries that the leader of the lower term has not) -/
section RAFT6
variable {E : Type} {tm : E → Nat} {mc : E → Option Nat} {c0 : Nat} {suc : Nat → Nat → Prop} {quo : Nat → (Nat → Bool) → Prop}
/-- an acknowledgement where some later leader's path lacks the entries -/
theorem rS_gack2 {g : RG E} (hg : rS tm mc c0 suc quo g) {t v i : Nat} {V : Option Nat} {P : List E} (hH : rH tm g (gMV g) (gMA g) v t V P) (hi : i ≤ (gL g t).length) (hp : ∀ j, j ≤ i → rown tm (gL g) t j → (gL g t).take j <+: P ∨ rlk (gL g) (gE g) t j) :
    rS tm mc c0 suc quo (gack g t v i) ∧ rH tm (gack g t v i) (gMV g) (gMA (gack g t v i)) v t V P := by
  obtain ⟨s1, s3, s4, s5, s6, s7, s8, s9, s10, s11, s12, s14⟩ := hg
  refine ⟨⟨s1, s3, s4, s5, s6, ?_, s8, s9, ⟨s10.1, fun a b d h => Or.inl (s10.2.1 a b d h), ?_⟩, s11, s12, s14⟩, hH.1, ?_⟩
  · intro t' v' c' k' t1 i' hmv hma hlt j hj hown
    rcases hma with hma | ⟨rfl, rfl, rfl⟩
    · exact s7 t' v' c' k' t1 i' hmv hma hlt j hj hown
    · have := (hH.1 t' c' k' hmv).1
      omega
  · intro t' v' i' h
    rcases h with h | ⟨rfl, rfl, rfl⟩
    · exact s10.2.2 t' v' i' h
    · exact hi
  · intro t' i' h
    rcases h with h | ⟨rfl, -, rfl⟩
    · exact hH.2 t' i' h
    · exact ⟨Nat.le_refl _, hp⟩
/-- later than the first d elections v votes in terms above t alone; e, the d-th, has nothing of t beyond i -/
def rdd {E : Type} (tm : E → Nat) (g : RG E) (t v i : Nat) : Prop := ∃ (d : Nat) (e : RE E), (gE g)[d]? = some e ∧ t < e.1 ∧ (∀ t' c k, gMV g t' v c k → t < t' → d < k) ∧ ∀ j, i < j → rown tm (gL g) t j → ¬ (gL g t).take j <+: e.2.2.1
/-- up to m a server's word in term t is kept, or does not count -/
def rak {E : Type} (tm : E → Nat) (g : RG E) (Y : Nat → Nat → Nat → Prop) (t v m : Nat) : Prop := ∃ i, Y t v i ∧ (m ≤ i ∨ rdd tm g t v i)
theorem rak_le {g : RG E} {Y : Nat → Nat → Nat → Prop} {t v m m' : Nat} (h : rak tm g Y t v m) (hm : m' ≤ m) : rak tm g Y t v m' := by
  obtain ⟨i, h1, h2⟩ := h
  exact ⟨i, h1, h2.imp (fun z => Nat.le_trans hm z) id⟩
theorem rS_elen {g : RG E} (hg : rS tm mc c0 suc quo g) {e : RE E} (he : e ∈ gE g) : e.2.2.1 <+: gL g e.1 := by
  obtain ⟨n, hn, -⟩ := r_mem he
  exact (hg.2.1 n e hn).1
theorem rS_ecoh {g : RG E} (hg : rS tm mc c0 suc quo g) {e : RE E} (he : e ∈ gE g) : rcoh tm (gL g) e.2.2.1 := rcoh_sub (rS_elen hg he) (hg.2.2.2.2.1 e.1)
/-- what is lacking stays lacking, when the leaders' paths grow -/
theorem rdd_le {g g' : RG E} (hg : rS tm mc c0 suc quo g) (hle : rLe (gL g) (gL g')) (hE : gE g <+: gE g') {t v i : Nat} (hv : ∀ t' c k, gMV g' t' v c k → gMV g t' v c k ∨ (gE g).length ≤ k) (h : rdd tm g t v i) : rdd tm g' t v i := by
  obtain ⟨d, e, h1, h2, h3, h4⟩ := h
  have hd : d < (gE g).length := by
    obtain ⟨hl, -⟩ := List.getElem?_eq_some_iff.mp h1
    exact hl
  refine ⟨d, e, ?_, h2, ?_, ?_⟩
  · obtain ⟨w, hw⟩ := hE
    rw [← hw, List.getElem?_append_left hd]
    exact h1
  · intro t' c k hk hlt
    rcases hv t' c k hk with z | z
    · exact h3 t' c k z hlt
    · omega
  · intro j hj hown hp
    have hcoh := rS_ecoh hg (r_of h1)
    obtain ⟨h0, x, hx, htx⟩ := hown
    have hxe : e.2.2.1[j - 1]? = some x := by
      obtain ⟨w, hw⟩ := hp
      rw [← hw, List.getElem?_append_left (by
        rw [List.length_take]
        obtain ⟨hl, -⟩ := List.getElem?_eq_some_iff.mp hx
        omega), List.getElem?_take_of_lt (by omega)]
      exact hx
    have h6 := hcoh _ x hxe
    rw [htx, show j - 1 + 1 = j by omega] at h6
    have hl : j ≤ (gL g t).length := by
      have := h6.length_le
      rw [List.length_take] at this
      obtain ⟨hl, -⟩ := List.getElem?_eq_some_iff.mp hxe
      omega
    refine h4 j hj (rown_of hle hl ⟨h0, x, hx, htx⟩) ?_
    rw [← r_tk (hle t) hl]
    exact hp
theorem rak_x {g g' : RG E} (hg : rS tm mc c0 suc quo g) (hle : rLe (gL g) (gL g')) (hE : gE g <+: gE g') {Y Y' : Nat → Nat → Nat → Prop} {t v m : Nat} (hY : ∀ i, Y t v i → Y' t v i) (hv : ∀ t' c k, gMV g' t' v c k → gMV g t' v c k ∨ (gE g).length ≤ k) (h : rak tm g Y t v m) : rak tm g' Y' t v m := by
  obtain ⟨i, h1, h2⟩ := h
  exact ⟨i, hY i h1, h2.imp id (rdd_le hg hle hE hv)⟩
/-- a commit of the words of a majority is in the paths of all who are elected later, also when some of these words do not count -/
theorem rS_commit2 (hI : ∀ C D D' Q Q', (D = C ∨ suc C D) → (D' = C ∨ suc C D') → quo D Q → quo D' Q' → ∃ v, Q v = true ∧ Q' v = true) {g : RG E} (hg : rS tm mc c0 suc quo g) {k : RK}
    (h1 : k.2.1 ≤ k.2.2.1) (h2 : k.2.2.1 = (gL g k.1).length) (hown : rown tm (gL g) k.1 k.2.1) (hel : ∃ e ∈ gE g, e.1 = k.1) (hq : quo (rcf mc c0 (gL g k.1)) k.2.2.2) (hak : ∀ v, k.2.2.2 v = true → rak tm g (gRA g) k.1 v k.2.1) :
    ∀ (n : Nat) (e : RE E), (gE g)[n]? = some e → k.1 < e.1 → rcp (gL g) k <+: e.2.2.1 := by
  have hg' := hg
  obtain ⟨s1, s3, s4, s5, s6, s7, s8, s9, s10, s11, s12, s14⟩ := hg'
  have htk : (gL g k.1).take k.2.2.1 = gL g k.1 := by rw [h2]; exact List.take_length
  intro n
  induction n using Nat.strongRecOn with
  | _ n ih =>
    intro e he hlt
    obtain ⟨a1, a2, a3, a4, a5, a6, a7, a8, a9⟩ := s3 n e he
    rcases r_core (E := E) (tm := tm) (mc := mc) (c0 := c0) hI (LL := gL g) (k := k) (P := e.2.2.1) (Qe := e.2.2.2.2) (kk := gK g) (ke := (gK g).take e.2.2.2.1) (fun z => ∃ m, (gK g)[m]? = some z ∧ (m < e.2.2.2.1 ∨ z.1 ≤ k.1))
      h1 (by rw [htk]; exact hq) (by rw [htk]; exact s12 _) (rS_le s3 s5) a4 a6 (fun z hz => by
        obtain ⟨m, hm, e1⟩ := r_take hz
        exact ⟨m, e1, Or.inl hm⟩) (fun z hz hle => by
        obtain ⟨m, hm, -⟩ := r_mem hz
        exact ⟨⟨m, hm, Or.inr hle⟩, (s11 m z e hm (r_of he) (Or.inr (by omega))).2⟩) (fun z hz => by
        obtain ⟨m, hm, hz⟩ := hz
        rcases Nat.lt_trichotomy z.1 k.1 with h | h | h
        · obtain ⟨e1, he1, hek⟩ := hel
          obtain ⟨-, h⟩ := s11 m z e1 hm he1 (Or.inr (by omega))
          obtain ⟨i, hi, -⟩ := r_mem he1
          have h6 := (s3 i e1 hi).1
          rw [hek] at h6
          exact rcmp_of (h.trans h6) (List.take_prefix _ _)
        · unfold rcp
          rw [h]
          exact rcmp_of (List.take_prefix _ _) (List.take_prefix _ _)
        · have hmk : m < e.2.2.2.1 := by omega
          obtain ⟨i, e1, hin, hi, hez⟩ := a9 z (r_take' hm hmk)
          have h := ih i hin e1 hi (by omega)
          have h6 := (s3 i e1 hi).1
          rw [hez] at h6
          exact rcmp_of (List.take_prefix _ _) (h.trans h6)) with h | ⟨v, v1, v2⟩
    · exact h
    · obtain ⟨kn, hkn, hrv⟩ := a8 v v2
      obtain ⟨i, hi, hor⟩ := hak v v1
      have hall : ∀ e2 ∈ (gE g).take kn, k.1 < e2.1 → rcp (gL g) k <+: e2.2.2.1 := fun e2 he2 hlt2 => by
        obtain ⟨m, hm, e3⟩ := r_take he2
        exact ih m (by omega) e2 e3 hlt2
      by_cases hki : k.2.1 ≤ i
      · exact rS_voter hg hown ⟨i, hi, hki⟩ hlt hrv a7 hall
      · obtain ⟨d, e2, d1, d2, d3, d4⟩ := hor.resolve_left hki
        have hdk := d3 e.1 e.2.1 kn (s10.1 _ _ _ _ hrv) hlt
        exact absurd (ih d (by omega) e2 d1 d2) (d4 k.2.1 (by omega) hown)
/-- so all these words count -/
theorem rS_true (hI : ∀ C D D' Q Q', (D = C ∨ suc C D) → (D' = C ∨ suc C D') → quo D Q → quo D' Q' → ∃ v, Q v = true ∧ Q' v = true) {g : RG E} (hg : rS tm mc c0 suc quo g) {k : RK}
    (h1 : k.2.1 ≤ k.2.2.1) (h2 : k.2.2.1 = (gL g k.1).length) (hown : rown tm (gL g) k.1 k.2.1) (hel : ∃ e ∈ gE g, e.1 = k.1) (hq : quo (rcf mc c0 (gL g k.1)) k.2.2.2) (hak : ∀ v, k.2.2.2 v = true → rak tm g (gRA g) k.1 v k.2.1) : ∀ v, k.2.2.2 v = true → ∃ i, gRA g k.1 v i ∧ k.2.1 ≤ i := by
  intro v hv
  obtain ⟨i, hi, hor⟩ := hak v hv
  by_cases hki : k.2.1 ≤ i
  · exact ⟨i, hi, hki⟩
  · obtain ⟨d, e2, d1, d2, d3, d4⟩ := hor.resolve_left hki
    exact absurd (rS_commit2 hI hg h1 h2 hown hel hq hak d e2 d1 d2) (d4 k.2.1 (by omega) hown)
theorem rS_gcommit2 (hI : ∀ C D D' Q Q', (D = C ∨ suc C D) → (D' = C ∨ suc C D') → quo D Q → quo D' Q' → ∃ v, Q v = true ∧ Q' v = true) {g : RG E} (hg : rS tm mc c0 suc quo g) {k : RK}
    (h1 : k.2.1 ≤ k.2.2.1) (h2 : k.2.2.1 = (gL g k.1).length) (hown : rown tm (gL g) k.1 k.2.1) (hel : ∃ e ∈ gE g, e.1 = k.1) (hq : quo (rcf mc c0 (gL g k.1)) k.2.2.2) (hak : ∀ v, k.2.2.2 v = true → rak tm g (gRA g) k.1 v k.2.1) : rS tm mc c0 suc quo (gcommit g k) := rS_gcommit hI hg h1 h2 hown hel hq (rS_true hI hg h1 h2 hown hel hq hak)
/-- a server takes over from a leader of its term: what it had in common with that one it keeps -/
theorem rH_adopt {g : RG E} (hg : rS tm mc c0 suc quo g) {X : Nat → Nat → Nat → Nat → Prop} {Y : Nat → Nat → Nat → Prop} {v T t : Nat} {V : Option Nat} {P P' : List E} (hY : ∀ i t, Y t v i → i ≤ (gL g t).length) (hT : T ≤ t) (he : ∃ e ∈ gE g, e.1 = t) (hk : ∀ j, j ≤ (gL g t).length → (gL g t).take j <+: P → (gL g t).take j <+: P') (h : rH tm g X Y v T V P) : rH tm g X Y v T V P' := by
  refine ⟨h.1, fun t1 i hy => ⟨(h.2 t1 i hy).1, fun j hj hown => ?_⟩⟩
  obtain ⟨ht, h2⟩ := h.2 t1 i hy
  rcases h2 j hj hown with h2 | h2
  · have hjl := rown_nil hown
    by_cases q : t1 = t
    · subst q
      exact Or.inl (hk j hjl h2)
    · obtain ⟨e, he, rfl⟩ := he
      by_cases w : (gL g t1).take j <+: e.2.2.1
      · have h3 := w.trans (rS_elen hg he)
        have h4 : (gL g e.1).take j = (gL g t1).take j := by
          have := List.prefix_iff_eq_take.mp h3
          rw [List.length_take, Nat.min_eq_left hjl] at this
          exact this.symm
        left
        rw [← h4]
        refine hk j ?_ (by rw [h4]; exact h2)
        have := h3.length_le
        rw [List.length_take] at this
        omega
      · exact Or.inr ⟨e, he, by omega, w⟩
  · exact Or.inr h2
theorem rH_mono {g : RG E} {X : Nat → Nat → Nat → Nat → Prop} {Y : Nat → Nat → Nat → Prop} {v T : Nat} {V : Option Nat} {P P' : List E} (hp : P <+: P') (h : rH tm g X Y v T V P) : rH tm g X Y v T V P' := ⟨h.1, fun t i hy => ⟨(h.2 t i hy).1, fun j hj ho => ((h.2 t i hy).2 j hj ho).imp (fun z => z.trans hp) id⟩⟩
/-- the term rises -/
theorem rH_up {g : RG E} {X : Nat → Nat → Nat → Nat → Prop} {Y : Nat → Nat → Nat → Prop} {v T T' : Nat} {V V' : Option Nat} {P : List E} (hT : T < T') (h : rH tm g X Y v T V P) : rH tm g X Y v T' V' P := by
  refine ⟨fun t c k hx => ?_, fun t i hy => ?_⟩
  · have := (h.1 t c k hx).1
    exact ⟨by omega, fun e => by omega⟩
  · have := h.2 t i hy
    exact ⟨by omega, this.2⟩
theorem rH_v {g : RG E} {X : Nat → Nat → Nat → Nat → Prop} {Y : Nat → Nat → Nat → Prop} {v T : Nat} {V V' : Option Nat} {P : List E} (hV : V = none ∨ V = V') (h : rH tm g X Y v T V P) : rH tm g X Y v T V' P := by
  refine ⟨fun t c k hx => ?_, h.2⟩
  obtain ⟨a1, a2⟩ := h.1 t c k hx
  refine ⟨a1, fun e => ?_⟩
  rcases hV with z | z
  · rw [z] at a2
    exact absurd (a2 e) (by simp)
  · rw [← z]
    exact a2 e
/-- agreed -/
def rCO {E : Type} (g : RG E) (C : List E) : Prop := C = [] ∨ ∃ k ∈ gK g, C <+: rcp (gL g) k
/-- agreed in a term or before -/
def rCM {E : Type} (g : RG E) (t : Nat) (C : List E) : Prop := C = [] ∨ ∃ k ∈ gK g, k.1 ≤ t ∧ C <+: rcp (gL g) k
theorem rCM_o {g : RG E} {t : Nat} {C : List E} (h : rCM g t C) : rCO g C := h.imp id (fun ⟨k, h1, _, h3⟩ => ⟨k, h1, h3⟩)
theorem rCO_sub {g : RG E} {C D : List E} (hs : D <+: C) (h : rCO g C) : rCO g D := by
  rcases h with rfl | ⟨k, h1, h2⟩
  · exact Or.inl (List.prefix_nil.mp hs)
  · exact Or.inr ⟨k, h1, hs.trans h2⟩
theorem rCM_sub {g : RG E} {t : Nat} {C D : List E} (hs : D <+: C) (h : rCM g t C) : rCM g t D := by
  rcases h with rfl | ⟨k, h1, h2, h3⟩
  · exact Or.inl (List.prefix_nil.mp hs)
  · exact Or.inr ⟨k, h1, h2, hs.trans h3⟩
theorem rCM_t {g : RG E} {t t' : Nat} {C : List E} (ht : t ≤ t') (h : rCM g t C) : rCM g t' C := h.imp id (fun ⟨k, h1, h2, h3⟩ => ⟨k, h1, Nat.le_trans h2 ht, h3⟩)
theorem rCO_x {g g' : RG E} (hle : rLe (gL g) (gL g')) (hK : ∀ k ∈ gK g, k ∈ gK g') {C : List E} (h : rCO g C) : rCO g' C := h.imp id (fun ⟨k, h1, h2⟩ => ⟨k, hK k h1, h2.trans (rcp_pre hle)⟩)
theorem rCM_x {g g' : RG E} (hle : rLe (gL g) (gL g')) (hK : ∀ k ∈ gK g, k ∈ gK g') {t : Nat} {C : List E} (h : rCM g t C) : rCM g' t C := h.imp id (fun ⟨k, h1, h2, h3⟩ => ⟨k, hK k h1, h2, h3.trans (rcp_pre hle)⟩)
/-- what is agreed: one is the other's beginning -/
theorem rCO_cmp {g : RG E} (hg : rS tm mc c0 suc quo g) {C D : List E} (h : rCO g C) (h' : rCO g D) : rcmp C D := by
  rcases h with rfl | ⟨k, k1, k2⟩
  · exact Or.inl List.nil_prefix
  · rcases h' with rfl | ⟨z, z1, z2⟩
    · exact Or.inr List.nil_prefix
    · rcases rS_chain hg k1 z1 with q | q
      · exact rcmp_of k2 (z2.trans q)
      · exact rcmp_of (k2.trans q) z2
theorem rCO_eq {g : RG E} (hg : rS tm mc c0 suc quo g) {C D : List E} (h : rCO g C) (h' : rCO g D) (hl : C.length = D.length) : C = D := by
  rcases rCO_cmp hg h h' with q | q
  · exact q.eq_of_length hl
  · exact (q.eq_of_length hl.symm).symm
/-- what is agreed in a term or before stands in its leader's path, as far as that goes when it is of that term -/
theorem rCM_in {g : RG E} (hg : rS tm mc c0 suc quo g) {t : Nat} {C : List E} (he : ∃ e ∈ gE g, e.1 = t) (h : rCM g t C) : C <+: gL g t := by
  rcases h with rfl | ⟨k, k1, k2, k3⟩
  · exact List.nil_prefix
  · by_cases q : k.1 = t
    · rw [← q]
      exact k3.trans (List.take_prefix _ _)
    · obtain ⟨e, he, rfl⟩ := he
      obtain ⟨n, hn, -⟩ := r_mem k1
      have h11 := hg.2.2.2.2.2.2.2.2.2.1 n k e hn he (Or.inr (by omega))
      exact k3.trans (h11.2.trans (rS_elen hg he))
theorem rCO_coh {g : RG E} (hg : rS tm mc c0 suc quo g) {C : List E} (h : rCO g C) : rcoh tm (gL g) C := by
  rcases h with rfl | ⟨k, k1, k2⟩
  · exact rcoh_nil
  · exact rcoh_sub (k2.trans (List.take_prefix _ _)) (hg.2.2.2.2.1 k.1)
/-- two coherent paths with an entry of one term at one place are the same up to there -/
theorem rcoh_eq {L : Nat → List E} {P Q : List E} (hP : rcoh tm L P) (hQ : rcoh tm L Q) {i : Nat} {x y : E} (hx : P[i]? = some x) (hy : Q[i]? = some y) (ht : tm x = tm y) : P.take (i + 1) = Q.take (i + 1) := by
  have h1 := hP i x hx
  have h2 := hQ i y hy
  rw [← ht] at h2
  obtain ⟨l1, -⟩ := List.getElem?_eq_some_iff.mp hx
  obtain ⟨l2, -⟩ := List.getElem?_eq_some_iff.mp hy
  have e1 : (P.take (i + 1)).length = i + 1 := by rw [List.length_take]; omega
  have e2 : (Q.take (i + 1)).length = i + 1 := by rw [List.length_take]; omega
  rcases rcmp_of h1 h2 with q | q
  · exact q.eq_of_length (by omega)
  · exact (q.eq_of_length (by omega)).symm
/-- the terms of a leader's own entries -/
theorem rS_nolead {g : RG E} (hg : rS tm mc c0 suc quo g) {t : Nat} {x : E} {i : Nat} (hx : (gL g t)[i]? = some x) : ∃ e ∈ gE g, e.1 = t := by
  by_cases q : ∃ e ∈ gE g, e.1 = t
  · exact q
  · rw [hg.2.2.2.1 t (fun e he z => q ⟨e, he, z⟩)] at hx
    simp at hx
theorem rcoh_el {g : RG E} (hg : rS tm mc c0 suc quo g) {P : List E} (hP : rcoh tm (gL g) P) : ∀ x ∈ P, ∃ e ∈ gE g, e.1 = tm x := by
  intro x hx
  obtain ⟨n, hn, -⟩ := r_mem hx
  have h1 := hP n x hn
  refine rS_nolead hg (x := x) (i := n) ?_
  obtain ⟨w, hw⟩ := h1
  obtain ⟨l1, -⟩ := List.getElem?_eq_some_iff.mp hn
  rw [← hw, List.getElem?_append_left (by rw [List.length_take]; omega), List.getElem?_take_of_lt (by omega)]
  exact hn
end RAFT6
/-! THE AGREED STORE AND THE AGREEMENT: what every server and every letter owes to it -/
abbrev GR : Type := RG AE
def gE0 : AE := (0, 0, 0, 0, 0, 0)
/-- the term of the n-th entry of a path, 0 of none -/
def gAt (P : List AE) (n : Nat) : Int32 := if n = 0 then 0 else (P.getD (n - 1) gE0).1
def gTm (a : AA) (s : Nat) : Nat := gN (aS a 53 s)
def gV (a : AA) (s : Nat) : Option Nat := if aS a 54 s < 0 then none else some (gN (aS a 54 s))
def gRS (z : Nat) (g : GR) : Prop := rS gtm gmc z gsuc gquo g
/-- who voted for another one: that one is sure of its own vote -/
def gVo (g : GR) : Prop := ∀ t v c k, gMV g t v c k → k ≤ (gE g).length ∧ (v = c ∨ ∃ k', gRV g t c c k')
/-- what a leader takes for told: nothing, or nothing of its own, or told -/
def gMt (g : GR) (T p : Nat) (x : Int32) : Prop := x ≤ 0 ∨ (∀ e ∈ gE g, e.1 = T → gN x ≤ e.2.2.1.length) ∨ rak gtm g (gRA g) T p (gN x)
def gEok (K : List AK) (x : AE) : Prop := 0 < x.1 ∧ wfE K x ∧ (x.2.1 = 1 → cdOK x.2.2.2.1 ∧ 0 ≤ x.2.2.2.1)
def gEnt (K : List AK) (g : GR) : Prop := (∀ k ∈ K, wfK k) ∧ ∀ t, ∀ x ∈ gL g t, gEok K x
/-! letters: t their term, f who sent them, X and Y the votes and words that they may speak of -/
def gAp (g : GR) (t : Nat) (l : AL) : Prop := (∃ e ∈ gE g, e.1 = t) ∧ 0 ≤ l.1 7 ∧ gN (l.1 7) + l.2.1.length ≤ (gL g t).length ∧ l.2.1 = ((gL g t).drop (gN (l.1 7))).take l.2.1.length ∧ l.1 8 = gAt (gL g t) (gN (l.1 7)) ∧ 0 ≤ l.1 9 ∧ gN (l.1 9) ≤ (gL g t).length ∧ rCO g ((gL g t).take (gN (l.1 9)))
def gPc (K : List AK) (z : Nat) (g : GR) (t : Nat) (l : AL) : Prop := ∃ C : List AE, C ≠ [] ∧ rCO g C ∧ C <+: gL g t ∧ (∃ e ∈ gE g, e.1 = t) ∧ l.1 7 = Int32.ofNat C.length ∧ l.1 8 = gAt C C.length ∧ 0 ≤ l.1 11 ∧ gN (l.1 11) = rcf gmc z C ∧ cdOK (l.1 11) ∧ l.2.2.2 = gmch K C ∧ l.1 12 = Int32.ofNat (aSize (gmch K C)) ∧ ∃ fr cnt : Nat, l.1 13 = Int32.ofNat fr ∧ l.1 17 = Int32.ofNat cnt ∧ fr + cnt ≤ aSize (gmch K C) ∧ cnt ≤ 200
def gSt (K : List AK) (g : GR) (Y : Nat → Nat → Nat → Prop) (t f : Nat) (l : AL) : Prop := (0 ≤ l.1 7 ∧ 0 ≤ l.1 12) ∧ (l.1 12 ≤ 0 ∨ (∃ i, gN (l.1 7) ≤ i ∧ Y t f i) ∨ ∃ C : List AE, C ≠ [] ∧ rCO g C ∧ C.length = gN (l.1 7) ∧ gN (l.1 12) < aSize (gmch K C))
def gLt (K : List AK) (z M : Nat) (g : GR) (X : Nat → Nat → Nat → Nat → Prop) (Y : Nat → Nat → Nat → Prop) (l : AL) : Prop :=
  (l.1 4 = 3 → ∃ P kc, gC g (gN (l.1 5)) (gN (l.1 2)) = some (P, kc) ∧ l.1 7 = Int32.ofNat P.length ∧ l.1 8 = gAt P P.length ∧ ∃ k, X (gN (l.1 5)) (gN (l.1 2)) (gN (l.1 2)) k) ∧
  (l.1 4 = 4 → l.1 6 = 1 → ∃ k, X (gN (l.1 5)) (gN (l.1 2)) (gN (l.1 3)) k) ∧
  (l.1 4 = 5 → gAp g (gN (l.1 5)) l) ∧
  (l.1 4 = 6 → l.1 6 = 1 → 0 ≤ l.1 7 ∧ rak gtm g Y (gN (l.1 5)) (gN (l.1 2)) (gN (l.1 7))) ∧
  (l.1 4 = 7 → gPc K z g (gN (l.1 5)) l) ∧
  (l.1 4 = 8 → gSt K g Y (gN (l.1 5)) (gN (l.1 2)) l) ∧ (l.1 4 < 10 → 0 ≤ l.1 5 ∧ ¬ l.1 2 = l.1 3 ∧ (¬ l.1 4 = 1 → ¬ (l.1 4 = 2 ∧ l.1 6 = 1) → gN (l.1 5) ≤ M))
/-! servers -/
def gNum (a : AA) (s : Nat) (P : List AE) (b : Nat) : Prop := aLast a s = Int32.ofNat P.length ∧ aBase a s = Int32.ofNat b ∧ b ≤ P.length ∧ P.length ≤ b + 300 ∧ aLg a s = P.drop b ∧ aS a 57 s = gAt P b
def gMem (z : Nat) (a : AA) (s : Nat) (P : List AE) (b : Nat) : Prop := 0 ≤ aS a 58 s ∧ gN (aS a 58 s) = rcf gmc z (P.take b) ∧ cdOK (aS a 58 s) ∧ aS a 64 s = Int32.ofNat (b + aMemAt (P.drop b)) ∧ aS a 65 s = aMemC (aS a 58 s) (P.drop b)
def gCoh (M : Nat) (a : AA) (g : GR) (s : Nat) (P : List AE) : Prop := 0 ≤ aS a 53 s ∧ rcoh gtm (gL g) P ∧ (∀ x ∈ P, gtm x ≤ gTm a s) ∧ gTm a s ≤ M
def gCom (a : AA) (g : GR) (s : Nat) (P : List AE) (b : Nat) : Prop := 0 ≤ aS a 75 s ∧ 0 ≤ aS a 76 s ∧ b ≤ gN (aS a 76 s) ∧ gN (aS a 76 s) ≤ gN (aS a 75 s) ∧ gN (aS a 75 s) ≤ P.length ∧ rCO g (P.take (gN (aS a 75 s))) ∧ aS a 77 s ≤ aLast a s ∧ 0 ≤ aS a 77 s
def gMch (a : AA) (s : Nat) (P : List AE) (b : Nat) : Prop := aMc a s = gmch (aAk a) (P.take (gN (aS a 76 s))) ∧ aSh a s = gmch (aAk a) (P.take b) ∧ (b = 0 ∨ aS a 67 s = Int32.ofNat (aSize (gmch (aAk a) (P.take b)))) ∧ 0 ≤ aS a 67 s
def gPro (a : AA) (g : GR) (s : Nat) (P : List AE) : Prop := rH gtm g (gMV g) (gMA g) s (gTm a s) (gV a s) P ∧ (aS a 71 s = 0 → (∀ t c k, gMV g t s c k → gRV g t s c k) ∧ ∀ t i, gMA g t s i → gRA g t s i)
def gRo2 (a : AA) (g : GR) (s : Nat) (P : List AE) : Prop := gV a s = some s ∧ (∀ e ∈ gE g, ¬ (e.1 = gTm a s ∧ e.2.1 = s)) ∧ (∃ kc, gC g (gTm a s) s = some (P, kc) ∧ (P.take (gN (aS a 75 s)) = [] ∨ ∃ k ∈ (gK g).take kc, P.take (gN (aS a 75 s)) <+: rcp (gL g) k)) ∧ (∀ p, p < 7 → aIn (aS a 79 s) p = true → ∃ k, gRV g (gTm a s) p s k) ∧ 0 < aS a 53 s ∧ ∃ k, gMV g (gTm a s) s s k
def gRo3 (a : AA) (g : GR) (s : Nat) (P : List AE) : Prop := gV a s = some s ∧ (∃ e ∈ gE g, e.1 = gTm a s ∧ e.2.1 = s) ∧ gL g (gTm a s) = P ∧ rCM g (gTm a s) (P.take (gN (aS a 75 s))) ∧ (∀ p, p < 7 → gMt g (gTm a s) p (aS a 87 (7 * s + p))) ∧ 0 < aS a 53 s ∧ gMt g (gTm a s) s (aS a 77 s)
def gRol (a : AA) (g : GR) (s : Nat) (P : List AE) : Prop := (aS a 73 s = 2 → gRo2 a g s P) ∧ (aS a 73 s = 3 → gRo3 a g s P)
def gAsm (a : AA) (g : GR) (s : Nat) : Prop := aS a 69 s = -1 ∨ ∃ C : List AE, C ≠ [] ∧ rCO g C ∧ aS a 69 s = Int32.ofNat C.length ∧ aPm a s = gmch (aAk a) C ∧ 0 ≤ aS a 70 s ∧ gN (aS a 70 s) < aSize (gmch (aAk a) C)
/-- what the disk keeps for certain: S entries, a term, a vote -/
def gKp (a : AA) (g : GR) (s : Nat) (P : List AE) (b S Tk : Nat) (Vk : Option Nat) : Prop := S ≤ P.length ∧ rH gtm g (gRV g) (gRA g) s Tk Vk (P.take (max S b)) ∧ (Tk < gTm a s ∨ (Tk = gTm a s ∧ (Vk = none ∨ Vk = gV a s))) ∧ (aS a 71 s = 0 → S = P.length ∧ Tk = gTm a s ∧ Vk = gV a s)
/-- path, base, how many entries are sure, term and vote that are sure -/
abbrev GH : Type := List AE × Nat × Nat × Nat × Option Nat
def gSrv (z M : Nat) (a : AA) (g : GR) (s : Nat) (h : GH) : Prop := gNum a s h.1 h.2.1 ∧ gMem z a s h.1 h.2.1 ∧ gCoh M a g s h.1 ∧ gCom a g s h.1 h.2.1 ∧ gMch a s h.1 h.2.1 ∧ gPro a g s h.1 ∧ gRol a g s h.1 ∧ gAsm a g s ∧ gKp a g s h.1 h.2.1 h.2.2.1 h.2.2.2.1 h.2.2.2.2
/-- one that is down: what comes up again -/
def gDn (M : Nat) (g : GR) (s : Nat) (h : GH) : Prop := h.2.1 ≤ h.1.length ∧ h.1.length ≤ h.2.1 + 300 ∧ rcoh gtm (gL g) h.1 ∧ (∀ x ∈ h.1, gtm x ≤ h.2.2.2.1) ∧ rCO g (h.1.take h.2.1) ∧ rH gtm g (gRV g) (gRA g) s h.2.2.2.1 h.2.2.2.2 h.1 ∧ (∀ t c k, gMV g t s c k → gRV g t s c k) ∧ (∀ t i, gMA g t s i → gRA g t s i) ∧ h.2.2.2.1 ≤ M
def GI (z M : Nat) (a : AA) (g : GR) (h : Nat → GH) : Prop :=
  gRS z g ∧ gVo g ∧ (∀ t, (gL g t).length ≤ M) ∧ gEnt (aAk a) g ∧
  (∀ s, s < 7 → aS a 52 s = 1 → gSrv z M a g s (h s)) ∧ (∀ s, s < 7 → aS a 52 s = 0 → gDn M g s (h s)) ∧
  (∀ s, s < 7 → ∀ l ∈ aWt a s, gLt (aAk a) z M g (gMV g) (gMA g) l) ∧ (∀ x ∈ aWay a, gLt (aAk a) z M g (gRV g) (gRA g) x.2.2)
/-! the same server, seen from elsewhere: D the numbers that are the same (87 of each other server; 2000 log, 2001 machine, 2002 snapshot, 2003 assembly) -/
def gSF : List Nat := [52, 53, 54, 55, 56, 57, 58, 64, 65, 67, 69, 70, 71, 73, 75, 76, 77, 79]
def gFA : List Nat := [52, 53, 54, 55, 56, 57, 58, 64, 65, 67, 69, 70, 71, 73, 75, 76, 77, 79, 87, 2000, 2001, 2002, 2003]
def gSub (A D : List Nat) : Bool := A.all (fun x => D.contains x)
theorem gSub_m {A D : List Nat} (h : gSub A D = true) {x : Nat} (hx : x ∈ A) : x ∈ D := by
  have := List.all_eq_true.mp h x hx
  exact List.contains_iff_mem.mp this
def gFr (D : List Nat) (i : Nat) (a b : AA) : Prop := (∀ f, f ∈ D → ¬ f = 87 → aS b f i = aS a f i) ∧ (87 ∈ D → ∀ p, p < 7 → aS b 87 (7 * i + p) = aS a 87 (7 * i + p)) ∧ (2000 ∈ D → aLg b i = aLg a i) ∧ (2001 ∈ D → aMc b i = aMc a i) ∧ (2002 ∈ D → aSh b i = aSh a i) ∧ (2003 ∈ D → aPm b i = aPm a i) ∧ gKle (aAk a) (aAk b)
section GF
variable {i s : Nat} {a b c : AA} {D D' : List Nat}
theorem gFr_r : gFr D i a a := ⟨fun _ _ _ => rfl, fun _ _ _ => rfl, fun _ => rfl, fun _ => rfl, fun _ => rfl, fun _ => rfl, gKle_r⟩
theorem gFr_t (h : gFr D i a b) (k : gFr D i b c) : gFr D i a c := ⟨fun f hf n => (k.1 f hf n).trans (h.1 f hf n), fun d p hp => (k.2.1 d p hp).trans (h.2.1 d p hp), fun d => (k.2.2.1 d).trans (h.2.2.1 d), fun d => (k.2.2.2.1 d).trans (h.2.2.2.1 d), fun d => (k.2.2.2.2.1 d).trans (h.2.2.2.2.1 d), fun d => (k.2.2.2.2.2.1 d).trans (h.2.2.2.2.2.1 d), gKle_t h.2.2.2.2.2.2 k.2.2.2.2.2.2⟩
theorem gFr_w (h : gFr D i a b) (k : gSub D' D = true) : gFr D' i a b := ⟨fun f hf => h.1 f (gSub_m k hf), fun d => h.2.1 (gSub_m k d), fun d => h.2.2.1 (gSub_m k d), fun d => h.2.2.2.1 (gSub_m k d), fun d => h.2.2.2.2.1 (gSub_m k d), fun d => h.2.2.2.2.2.1 (gSub_m k d), h.2.2.2.2.2.2⟩
/-- from a method's frame -/
def gTs (D T : List Nat) : Bool := (D.contains 2000 && T.contains 2) || (D.contains 2001 && T.contains 3) || (D.contains 2002 && T.contains 4) || (D.contains 2003 && T.contains 5) || T.contains 10
theorem gFr_A {W T : List Nat} (h : AFr W T a b) (q : dj D W = true) (q2 : gTs D T = false) : gFr D i a b := by
  unfold gTs at q2
  simp only [Bool.or_eq_false_iff, Bool.and_eq_false_iff] at q2
  obtain ⟨⟨⟨⟨q3, q4⟩, q5⟩, q6⟩, q7⟩ := q2
  have hc : ∀ {l : List Nat} {x : Nat}, l.contains x = false → x ∉ l := fun hx hm => by
    have := List.contains_iff_mem.mpr hm
    rw [hx] at this
    cases this
  exact ⟨fun f hf _ => h.1 f (dj_m q hf) i, fun d p _ => h.1 87 (dj_m q d) _, fun d => congrFun (h.2.2.2.1 (hc (q3.resolve_left (fun y => hc y d)))) i, fun d => congrFun (h.2.2.2.2.1 (hc (q4.resolve_left (fun y => hc y d)))) i, fun d => congrFun (h.2.2.2.2.2.1 (hc (q5.resolve_left (fun y => hc y d)))) i, fun d => congrFun (h.2.2.2.2.2.2.1 (hc (q6.resolve_left (fun y => hc y d)))) i, by rw [h.2.2.2.2.2.2.2.2.2.2.2.1 (hc q7)]; exact gKle_r⟩
theorem gFA_On : ∀ f ∈ gFA, ¬ f = 87 → (f ∈ sF ∨ f = 52 ∨ f = 71 ∨ 2000 ≤ f) := by decide
theorem sc49_no : ∀ f, f ∈ sF ∨ f = 52 ∨ f = 71 ∨ 2000 ≤ f → f ∉ sc49 ∧ ¬ f = 2 ∧ ¬ f = 21 ∧ ¬ f = 22 ∧ ¬ f = 43 := by
  intro f hf
  rcases hf with h | h | h | h
  · exact (by decide : ∀ f ∈ sF, f ∉ sc49 ∧ ¬ f = 2 ∧ ¬ f = 21 ∧ ¬ f = 22 ∧ ¬ f = 43) f h
  · subst h; decide
  · subst h; decide
  · refine ⟨fun y => ?_, by omega, by omega, by omega, by omega⟩
    have := (by decide : ∀ f ∈ sc49, f < 2000) f y
    omega
theorem gFr_O (h : On s a b) (hi : i ≠ s) : gFr gFA i a b := by
  obtain ⟨h1, h2, h3, -⟩ := h
  obtain ⟨o1, o2, o3, o4, o5, -⟩ := h2 i hi
  refine ⟨fun f hf nf => h1 f i (fun y => ?_), fun _ p hp => h1 87 (7 * i + p) (fun y => ?_), fun _ => o2, fun _ => o3, fun _ => o4, fun _ => o5, by rw [h3]; exact gKle_r⟩
  · obtain ⟨n1, n2, n3, n4, n5⟩ := sc49_no f (gFA_On f hf nf)
    rcases y with y | y | y | y | y | y
    · exact n2 y
    · exact n3 y
    · exact n4 y
    · exact hi y.2
    · exact n1 y.1
    · exact n5 y.1
  · rcases y with y | y | y | y | y | y
    · exact absurd y (by decide)
    · exact absurd y (by decide)
    · exact absurd y (by decide)
    · exact absurd y.1 (by decide)
    · obtain ⟨q, hq, e⟩ := y.2
      omega
    · exact absurd y.1 (by decide)
end GF
/-! how the agreement goes on while a server acts -/
def gX (s : Nat) (g g' : GR) : Prop := rLe (gL g) (gL g') ∧ (∀ k ∈ gK g, k ∈ gK g') ∧ gE g <+: gE g' ∧ (∀ t v c k, gRV g t v c k → gRV g' t v c k) ∧ (∀ t v i, gRA g t v i → gRA g' t v i) ∧
  (∀ t v c k, v ≠ s → (gMV g' t v c k ↔ gMV g t v c k)) ∧ (∀ t v i, v ≠ s → (gMA g' t v i ↔ gMA g t v i)) ∧ (∀ t c k, gMV g' t s c k → gMV g t s c k ∨ (gE g).length ≤ k) ∧
  (∀ t c, c ≠ s ∨ (∃ k, gMV g t s s k) → gC g' t c = gC g t c) ∧ (∀ e ∈ gE g', e ∈ gE g ∨ e.2.1 = s) ∧ (∀ t, gL g' t = gL g t ∨ ∃ e ∈ gE g', e.1 = t ∧ e.2.1 = s) ∧ gK g <+: gK g' ∧ (∀ t v c k, v ≠ s → gRV g' t v c k → gRV g t v c k) ∧ (∀ t v i, v ≠ s → gRA g' t v i → gRA g t v i)
section GX
variable {i s z M M' : Nat} {a b : AA} {g g' g2 : GR}
theorem gX_r : gX s g g := ⟨rLe_refl, fun _ h => h, List.prefix_refl _, fun _ _ _ _ h => h, fun _ _ _ h => h, fun _ _ _ _ _ => Iff.rfl, fun _ _ _ _ => Iff.rfl, fun _ _ _ h => Or.inl h, fun _ _ _ => rfl, fun _ h => Or.inl h, fun _ => Or.inl rfl, List.prefix_refl _, fun _ _ _ _ _ h => h, fun _ _ _ _ h => h⟩
theorem rak_g (hg : gRS z g) (x : gX s g g') {Y Y' : Nat → Nat → Nat → Prop} {t v m : Nat} (hY : ∀ i, Y t v i → Y' t v i) (h : rak gtm g Y t v m) : rak gtm g' Y' t v m := by
  refine rak_x hg x.1 x.2.2.1 hY (fun t' c k hk => ?_) h
  by_cases q : v = s
  · subst q
    exact x.2.2.2.2.2.2.2.1 t' c k hk
  · exact Or.inl ((x.2.2.2.2.2.1 t' v c k q).mp hk)
theorem gAp_x (x : gX s g g') {t : Nat} {l : AL} (h : gAp g t l) : gAp g' t l := by
  obtain ⟨⟨e, he, h1⟩, h2, h3, h4, h5, h6, h7, h8⟩ := h
  have hp := x.1 t
  have hl := hp.length_le
  obtain ⟨w, hw⟩ := hp
  have hd : ((gL g' t).drop (gN (l.1 7))).take l.2.1.length = ((gL g t).drop (gN (l.1 7))).take l.2.1.length := by
    rw [← hw, List.drop_append_of_le_length (by omega), List.take_append_of_le_length (by rw [List.length_drop]; omega)]
  have ht : (gL g' t).take (gN (l.1 9)) = (gL g t).take (gN (l.1 9)) := by
    rw [← hw, List.take_append_of_le_length h7]
  refine ⟨⟨e, x.2.2.1.subset he, h1⟩, h2, by omega, h4.trans hd.symm, ?_, h6, by omega, ?_⟩
  · rw [h5]
    unfold gAt
    by_cases q : gN (l.1 7) = 0
    · rw [if_pos q, if_pos q]
    · rw [if_neg q, if_neg q, ← hw]
      rw [List.getD_eq_getElem?_getD, List.getD_eq_getElem?_getD, List.getElem?_append_left (by omega)]
  · rw [ht]
    exact rCO_x x.1 x.2.1 h8
theorem gLt_x (hg : gRS z g) (x : gX s g g') {K K' : List AK} (hK : gKle K K') (hE : gEnt K g) {X X' : Nat → Nat → Nat → Nat → Prop} {Y Y' : Nat → Nat → Nat → Prop} {l : AL} (hX : ∀ c k, X (gN (l.1 5)) (gN (l.1 2)) c k → X' (gN (l.1 5)) (gN (l.1 2)) c k) (hY : ∀ i, Y (gN (l.1 5)) (gN (l.1 2)) i → Y' (gN (l.1 5)) (gN (l.1 2)) i) (hXM : ∀ c k, X (gN (l.1 5)) (gN (l.1 2)) c k → gMV g (gN (l.1 5)) (gN (l.1 2)) c k) (h : gLt K z M g X Y l) (hM : M ≤ M') : gLt K' z M' g' X' Y' l := by
  have hm : ∀ C : List AE, rCO g C → gmch K' C = gmch K C := fun C hC => gmch_K hK (fun e he => by
    rcases hC with rfl | ⟨k, k1, k2⟩
    · exact absurd he List.not_mem_nil
    · have := (hE.2 k.1 e ((k2.trans (List.take_prefix _ _)).subset he)).2.1.2.2
      exact fun q => (this q).imp id (fun y => y.2.1))
  obtain ⟨h3, h4, h5, h6, h7, h8, h10⟩ := h
  refine ⟨fun q => ?_, fun q q1 => ?_, fun q => gAp_x x (h5 q), fun q q1 => ?_, fun q => ?_, fun q => ?_, fun q => ⟨(h10 q).1, (h10 q).2.1, fun y y2 => Nat.le_trans ((h10 q).2.2 y y2) hM⟩⟩
  · obtain ⟨P, kc, e1, e2, e3, k, hk⟩ := h3 q
    refine ⟨P, kc, ?_, e2, e3, k, hX _ k hk⟩
    rw [x.2.2.2.2.2.2.2.2.1 (gN (l.1 5)) (gN (l.1 2)) ?_]
    · exact e1
    · by_cases w : gN (l.1 2) = s
      · refine Or.inr ⟨k, ?_⟩
        have := hXM _ k hk
        rw [w] at this
        exact this
      · exact Or.inl w
  · obtain ⟨k, hk⟩ := h4 q q1
    exact ⟨k, hX _ k hk⟩
  · obtain ⟨q2, q3⟩ := h6 q q1
    exact ⟨q2, rak_g hg x hY q3⟩
  · obtain ⟨C, c1, c2, c3, ⟨e, he, c4⟩, c5, c6, c7, c8, c9, c10, c11, fr, cnt, d1, d2, d3, d4⟩ := h7 q
    refine ⟨C, c1, rCO_x x.1 x.2.1 c2, c3.trans (x.1 _), ⟨e, x.2.2.1.subset he, c4⟩, c5, c6, c7, c8, c9, ?_, ?_, fr, cnt, d1, d2, ?_, d4⟩
    · rw [hm C c2]
      exact c10
    · rw [hm C c2]
      exact c11
    · rw [hm C c2]
      exact d3
  · obtain ⟨q1, q2⟩ := h8 q
    refine ⟨q1, q2.imp id (Or.imp (fun ⟨i, i1, i2⟩ => ⟨i, i1, hY i i2⟩) (fun ⟨C, c1, c2, c3, c4⟩ => ⟨C, c1, rCO_x x.1 x.2.1 c2, c3, ?_⟩))⟩
    rw [hm C c2]
    exact c4
end GX
/-! machines of agreed paths -/
theorem gmch_ok {K : List AK} {P : List AE} (hK : ∀ k ∈ K, wfK k) (hP : ∀ x ∈ P, gEok K x) (hM : P.length < 1073741824) : ∀ n, n ≤ P.length → wfMc (gmch K (P.take n)) ∧ srtM (gmch K (P.take n)) ∧ sBel (gmch K (P.take n)) (Int32.ofNat (n + 1)) := by
  intro n
  induction n with
  | zero => exact fun _ => ⟨wf_0, List.Pairwise.nil, fun x hx => absurd hx List.not_mem_nil⟩
  | succ n ih =>
    intro hn
    obtain ⟨h1, h2, h3⟩ := ih (by omega)
    have ht : P.take (n + 1) = P.take n ++ [P.getD n gE0] := by
      rw [List.take_succ_eq_append_getElem (by omega), List.getD_eq_getElem?_getD, List.getElem?_eq_getElem (by omega)]
      rfl
    have hm : P.getD n gE0 ∈ P := by
      rw [List.getD_eq_getElem?_getD, List.getElem?_eq_getElem (by omega)]
      exact List.getElem_mem _
    obtain ⟨e1, e2, e3⟩ := hP _ hm
    have hlen : (P.take n).length + 1 = n + 1 := by rw [List.length_take]; omega
    have h0 : (0 : Int32) ≤ Int32.ofNat (n + 1) := by
      rw [Int32.le_iff_toInt_le, i_0, Int32.toInt_ofNat_of_lt (by omega)]
      omega
    have hlt : (Int32.ofNat (n + 1)).toInt < 2147483647 := by
      rw [Int32.toInt_ofNat_of_lt (by omega)]
      omega
    rw [ht, gmch_1, hlen]
    generalize P.getD n gE0 = e at e1 e2 e3
    by_cases q : e.2.1 = 2
    · rw [if_pos q]
      refine ⟨perf_wf h1 h3 h0 hK ((e2.2.2 q).imp id (fun y => ⟨y.2.1, y.2.2⟩)), perf_srt h2 h1.1 (fun k hk => ⟨wfK_len (hK k hk), (hK k hk).2.2⟩), ?_⟩
      have := sBel_perf (K := K) (e := e) h3 hlt
      rw [i_s] at this
      exact this
    · rw [if_neg q]
      refine ⟨h1, h2, fun x hx => ?_⟩
      obtain ⟨a1, a2⟩ := h3 x hx
      rw [Int32.lt_iff_toInt_lt, Int32.toInt_ofNat_of_lt (by omega)] at a1 a2
      rw [Int32.lt_iff_toInt_lt, Int32.lt_iff_toInt_lt, Int32.toInt_ofNat_of_lt (by omega)]
      omega
theorem rCO_ok {K : List AK} {g : GR} (hE : gEnt K g) {C : List AE} (h : rCO g C) : ∀ x ∈ C, gEok K x := by
  intro x hx
  rcases h with rfl | ⟨k, k1, k2⟩
  · exact absurd hx List.not_mem_nil
  · exact hE.2 k.1 x ((k2.trans (List.take_prefix _ _)).subset hx)
theorem rCO_len {g : GR} {M : Nat} (hM : ∀ t, (gL g t).length ≤ M) {C : List AE} (h : rCO g C) : C.length ≤ M := by
  rcases h with rfl | ⟨k, k1, k2⟩
  · exact Nat.zero_le _
  · exact Nat.le_trans (k2.trans (List.take_prefix _ _)).length_le (hM k.1)
theorem gmch_c {K : List AK} {g : GR} (hE : gEnt K g) (hM : ∀ t, (gL g t).length ≤ 1073741823) {C : List AE} (h : rCO g C) : wfMc (gmch K C) ∧ srtM (gmch K C) ∧ sBel (gmch K C) (Int32.ofNat (C.length + 1)) := by
  have := gmch_ok hE.1 (rCO_ok hE h) (by have := rCO_len hM h; omega) C.length (Nat.le_refl _)
  rw [List.take_length] at this
  exact this
theorem gSz_of {K : List AK} {g : GR} (hE : gEnt K g) (hM : ∀ t, (gL g t).length ≤ 1073741823) (C : List AE) (h : rCO g C) : aSize (gmch K C) ≤ 13980 ∧ 8 ≤ aSize (gmch K C) := by
  rw [aSize_n]
  exact aEnc_len (gmch_c hE hM h).1.1
/-! the others keep what they owe, while one server acts -/
section GO
variable {i s z M M' : Nat} {a b : AA} {g g' : GR} {h : GH} {D : List Nat}
theorem gCO_K {K K' : List AK} (hK : gKle K K') (hE : gEnt K g) {C : List AE} (hC : rCO g C) : gmch K' C = gmch K C := gmch_K hK (fun e he => by
    rcases hC with rfl | ⟨k, k1, k2⟩
    · exact absurd he List.not_mem_nil
    · have := (hE.2 k.1 e ((k2.trans (List.take_prefix _ _)).subset he)).2.1.2.2
      exact fun q => (this q).imp id (fun y => y.2.1))
theorem gNum_f (k : gFr D i a b) (d : gSub [55, 56, 57, 2000] D = true) {P : List AE} {n : Nat} (q : gNum a i P n) : gNum b i P n := by
  unfold gNum aLast aBase at *
  rw [k.1 56 (gSub_m d (by decide)) (by decide), k.1 55 (gSub_m d (by decide)) (by decide), k.1 57 (gSub_m d (by decide)) (by decide), k.2.2.1 (gSub_m d (by decide))]
  exact q
theorem gMem_f (k : gFr D i a b) (d : gSub [58, 64, 65] D = true) {P : List AE} {n : Nat} (q : gMem z a i P n) : gMem z b i P n := by
  unfold gMem at *
  rw [k.1 58 (gSub_m d (by decide)) (by decide), k.1 64 (gSub_m d (by decide)) (by decide), k.1 65 (gSub_m d (by decide)) (by decide)]
  exact q
theorem gTm_f (k : gFr D i a b) (d : 53 ∈ D) : gTm b i = gTm a i := by
  unfold gTm
  rw [k.1 53 d (by decide)]
theorem gV_f (k : gFr D i a b) (d : 54 ∈ D) : gV b i = gV a i := by
  unfold gV
  rw [k.1 54 d (by decide)]
theorem gCoh_f (k : gFr D i a b) (d : 53 ∈ D) {P : List AE} (q : gCoh M a g i P) : gCoh M b g i P := by
  unfold gCoh at *
  rw [gTm_f k d, k.1 53 d (by decide)]
  exact q
theorem gCom_f (k : gFr D i a b) (d : gSub [75, 76, 77, 56] D = true) {P : List AE} {n : Nat} (q : gCom a g i P n) : gCom b g i P n := by
  unfold gCom aLast at *
  rw [k.1 75 (gSub_m d (by decide)) (by decide), k.1 76 (gSub_m d (by decide)) (by decide), k.1 77 (gSub_m d (by decide)) (by decide), k.1 56 (gSub_m d (by decide)) (by decide)]
  exact q
theorem gMch_f (k : gFr D i a b) (d : gSub [67, 76, 2001, 2002] D = true) (hE : gEnt (aAk a) g) {P : List AE} {n : Nat} (c : gCom a g i P n) (q : gMch a i P n) : gMch b i P n := by
  have e1 : ∀ m, m ≤ gN (aS a 75 i) → gmch (aAk b) (P.take m) = gmch (aAk a) (P.take m) := fun m hm => gCO_K k.2.2.2.2.2.2 hE (rCO_sub (List.take_prefix_take_left hm) c.2.2.2.2.2.1)
  unfold gMch at *
  rw [k.1 76 (gSub_m d (by decide)) (by decide), k.1 67 (gSub_m d (by decide)) (by decide), k.2.2.2.1 (gSub_m d (by decide)), k.2.2.2.2.1 (gSub_m d (by decide)), e1 _ c.2.2.2.1, e1 _ (Nat.le_trans c.2.2.1 c.2.2.2.1)]
  exact q
theorem gPro_f (k : gFr D i a b) (d : gSub [53, 54, 71] D = true) {P : List AE} (q : gPro a g i P) : gPro b g i P := by
  unfold gPro at *
  rw [gTm_f k (gSub_m d (by decide)), gV_f k (gSub_m d (by decide)), k.1 71 (gSub_m d (by decide)) (by decide)]
  exact q
theorem gRo2_f (k : gFr D i a b) (d : gSub [53, 54, 75, 79] D = true) {P : List AE} (q : gRo2 a g i P) : gRo2 b g i P := by
  unfold gRo2 at *
  rw [gTm_f k (gSub_m d (by decide)), gV_f k (gSub_m d (by decide)), k.1 75 (gSub_m d (by decide)) (by decide), k.1 79 (gSub_m d (by decide)) (by decide), k.1 53 (gSub_m d (by decide)) (by decide)]
  exact q
theorem gRo3_f (k : gFr D i a b) (d : gSub [53, 54, 75, 77, 87] D = true) {P : List AE} (q : gRo3 a g i P) : gRo3 b g i P := by
  unfold gRo3 at *
  rw [gTm_f k (gSub_m d (by decide)), gV_f k (gSub_m d (by decide)), k.1 75 (gSub_m d (by decide)) (by decide), k.1 77 (gSub_m d (by decide)) (by decide), k.1 53 (gSub_m d (by decide)) (by decide)]
  obtain ⟨q1, q2, q3, q4, q5, q6⟩ := q
  refine ⟨q1, q2, q3, q4, fun p hp => ?_, q6⟩
  rw [k.2.1 (gSub_m d (by decide)) p hp]
  exact q5 p hp
theorem gRol_f (k : gFr D i a b) (d : gSub [53, 54, 73, 75, 77, 79, 87] D = true) {P : List AE} (q : gRol a g i P) : gRol b g i P := by
  have k2 := gFr_w k d
  unfold gRol at *
  rw [k.1 73 (gSub_m d (by decide)) (by decide)]
  exact ⟨fun e => gRo2_f k2 (by decide) (q.1 e), fun e => gRo3_f k2 (by decide) (q.2 e)⟩
theorem gAsm_f (k : gFr D i a b) (d : gSub [69, 70, 2003] D = true) (hE : gEnt (aAk a) g) (q : gAsm a g i) : gAsm b g i := by
  unfold gAsm at *
  rw [k.1 69 (gSub_m d (by decide)) (by decide), k.1 70 (gSub_m d (by decide)) (by decide), k.2.2.2.2.2.1 (gSub_m d (by decide))]
  refine q.imp id (fun ⟨C, c1, c2, c3, c4, c5, c6⟩ => ⟨C, c1, c2, c3, ?_, c5, ?_⟩)
  · rw [gCO_K k.2.2.2.2.2.2 hE c2]
    exact c4
  · rw [gCO_K k.2.2.2.2.2.2 hE c2]
    exact c6
theorem gKp_f (k : gFr D i a b) (d : gSub [53, 54, 71] D = true) {P : List AE} {n S Tk : Nat} {Vk : Option Nat} (q : gKp a g i P n S Tk Vk) : gKp b g i P n S Tk Vk := by
  unfold gKp at *
  rw [gTm_f k (gSub_m d (by decide)), gV_f k (gSub_m d (by decide)), k.1 71 (gSub_m d (by decide)) (by decide)]
  exact q
theorem gSrv_f (k : gFr gFA i a b) (hE : gEnt (aAk a) g) (q : gSrv z M a g i h) : gSrv z M b g i h := by
  obtain ⟨q1, q2, q3, q4, q5, q6, q7, q8, q9⟩ := q
  exact ⟨gNum_f k (by decide) q1, gMem_f k (by decide) q2, gCoh_f k (by decide) q3, gCom_f k (by decide) q4, gMch_f k (by decide) hE q4 q5, gPro_f k (by decide) q6, gRol_f k (by decide) q7, gAsm_f k (by decide) hE q8, gKp_f k (by decide) q9⟩
theorem gMt_x (hg : gRS z g) (hg' : gRS z g') (x : gX s g g') {T p : Nat} {v : Int32} (he : ∃ e ∈ gE g, e.1 = T) (h : gMt g T p v) : gMt g' T p v := by
  refine h.imp id (Or.imp (fun y e' he' e1 => ?_) (fun w => rak_g hg x (fun j y => x.2.2.2.2.1 _ _ _ y) w))
  obtain ⟨e, he, e2⟩ := he
  obtain ⟨n, hn, -⟩ := r_mem (x.2.2.1.subset he)
  obtain ⟨m, hm, -⟩ := r_mem he'
  have := hg'.2.2.1 n m e e' hn hm (e2.trans e1.symm)
  subst this
  have h3 : e = e' := Option.some.inj (hn.symm.trans hm)
  rw [← h3]
  exact y e he e2
/-- the agreement goes on elsewhere -/
theorem gSrv_x (hg : gRS z g) (hg' : gRS z g') (x : gX s g g') (hi : i ≠ s) (hM : M ≤ M') (q : gSrv z M a g i h) : gSrv z M' a g' i h := by
  obtain ⟨q1, q2, q3, q4, q5, q6, q7, q8, q9⟩ := q
  have hY := hg.2.2.2.2.2.2.2.2.1
  obtain ⟨x1, x2, x3, x4, x5, x6, x7, x8, x9, x10, x11, x12, x13, x14⟩ := id x
  refine ⟨q1, q2, ⟨q3.1, rcoh_le x1 q3.2.1, q3.2.2.1, Nat.le_trans q3.2.2.2 hM⟩, ⟨q4.1, q4.2.1, q4.2.2.1, q4.2.2.2.1, q4.2.2.2.2.1, rCO_x x1 x2 q4.2.2.2.2.2.1, q4.2.2.2.2.2.2⟩, q5, ⟨?_, ?_⟩, ⟨fun e => ?_, fun e => ?_⟩, ?_, ?_⟩
  · refine rH_sub (fun t c k y => (x6 t i c k hi).mp y) (fun t j y => (x7 t i j hi).mp y) (rH_le x1 (fun e he => x3.subset he) (fun t v j y => hY.2.2 t v j y) q6.1)
  · intro e
    obtain ⟨e1, e2⟩ := q6.2 e
    exact ⟨fun t c k y => x4 _ _ _ _ (e1 t c k ((x6 t i c k hi).mp y)), fun t j y => x5 _ _ _ (e2 t j ((x7 t i j hi).mp y))⟩
  · obtain ⟨r1, r2, ⟨kc, r3, r4⟩, r5, r6, kk, r7⟩ := q7.1 e
    refine ⟨r1, fun e he y => ?_, ⟨kc, ?_, ?_⟩, fun p hp y => (r5 p hp y).imp (fun k hk => x4 _ _ _ _ hk), r6, kk, (x6 _ i _ _ hi).mpr r7⟩
    · rcases x10 e he with w | w
      · exact r2 e w y
      · exact hi (y.2.symm.trans w)
    · rw [x9 _ i (Or.inl hi)]
      exact r3
    · refine r4.imp id (fun ⟨k, k1, k2⟩ => ⟨k, ?_, k2.trans (rcp_pre x1)⟩)
      have hk := (hg.2.2.2.2.2.2.2.2.2.2.2 _ _ _ _ r3).2.2.1
      obtain ⟨w, hw⟩ := x12
      rw [← hw, List.take_append_of_le_length hk]
      exact k1
  · obtain ⟨r1, ⟨e, he, r2, r3⟩, r4, r5, r6, r7, r8⟩ := q7.2 e
    have eL : gL g' (gTm a i) = gL g (gTm a i) := by
      rcases x11 (gTm a i) with w | ⟨e', he', w1, w2⟩
      · exact w
      · exfalso
        obtain ⟨n, hn, -⟩ := r_mem (x3.subset he)
        obtain ⟨m, hm, -⟩ := r_mem he'
        have := hg'.2.2.1 n m e e' hn hm (r2.trans w1.symm)
        subst this
        rw [hn] at hm
        cases hm
        exact hi (r3.symm.trans w2)
    exact ⟨r1, ⟨e, x3.subset he, r2, r3⟩, eL.trans r4, rCM_x x1 x2 r5, fun p hp => gMt_x hg hg' x ⟨e, he, r2⟩ (r6 p hp), r7, gMt_x hg hg' x ⟨e, he, r2⟩ r8⟩
  · exact q8.imp id (fun ⟨C, c1, c2, c3⟩ => ⟨C, c1, rCO_x x1 x2 c2, c3⟩)
  · exact ⟨q9.1, rH_sub (fun t c k y => x13 t i c k hi y) (fun t j y => x14 t i j hi y) (rH_le x1 (fun e he => x3.subset he) (fun t v j y => hY.2.2 t v j (hY.2.1 t v j y)) q9.2.1), q9.2.2.1, q9.2.2.2⟩
theorem gDn_x (hg : gRS z g) (x : gX s g g') (hi : i ≠ s) (hM : M ≤ M') (q : gDn M g i h) : gDn M' g' i h := by
  have hY := hg.2.2.2.2.2.2.2.2.1
  obtain ⟨x1, x2, x3, x4, x5, x6, x7, x8, x9, x10, x11, x12, x13, x14⟩ := id x
  obtain ⟨q1, q2, q3, q4, q5, q6, q7, q8, q9⟩ := q
  refine ⟨q1, q2, rcoh_le x1 q3, q4, rCO_x x1 x2 q5, ?_, fun t c k y => x4 _ _ _ _ (q7 t c k ((x6 t i c k hi).mp y)), fun t j y => x5 _ _ _ (q8 t j ((x7 t i j hi).mp y)), Nat.le_trans q9 hM⟩
  exact rH_sub (fun t c k y => x13 t i c k hi y) (fun t j y => x14 t i j hi y) (rH_le x1 (fun e he => x3.subset he) (fun t v j y => hY.2.2 t v j (hY.2.1 t v j y)) q6)
/-- one server acts: what is to be shown of it alone -/
theorem GI_act {H : Nat → GH} (G : GI z M a g H) (hg' : gRS z g') (x : gX s g g') (o : On s a b) (hMM : M ≤ M') (hM : ∀ t, (gL g' t).length ≤ M') (hE : gEnt (aAk b) g') (h52 : aS b 52 s = aS a 52 s) {hs : GH} (hv : gVo g')
    (hme : aS a 52 s = 1 → gSrv z M' b g' s hs) (hdn : aS a 52 s = 0 → gDn M' g' s hs) (hw : s < 7 → ∀ l ∈ aWt b s, gLt (aAk b) z M' g' (gMV g') (gMA g') l) (hway : ∀ y ∈ aWay b, (∃ w ∈ aWay a, y.2.2 = w.2.2) ∨ gLt (aAk b) z M' g' (gRV g') (gRA g') y.2.2)
    (hfrom : ∀ i, i < 7 → ∀ l ∈ aWt a i, l.1 2 = Int32.ofNat i) : GI z M' b g' (fun i => if i = s then hs else H i) := by
  obtain ⟨g1, g2, g3, g4, g5, g6, g7, g8⟩ := G
  have hK : gKle (aAk a) (aAk b) := by
    rw [o.2.2.1]
    exact gKle_r
  have e52 : ∀ i, i ≠ s → aS b 52 i = aS a 52 i := fun i hi => (gFr_O o hi).1 52 (by decide) (by decide)
  refine ⟨hg', hv, hM, hE, ?_, ?_, ?_, ?_⟩
  · intro i hi e
    by_cases q : i = s
    · subst q
      show gSrv z M' b g' i (if i = i then hs else H i)
      rw [if_pos rfl]
      exact hme (h52.symm.trans e)
    · show gSrv z M' b g' i (if i = s then hs else H i)
      rw [if_neg q]
      rw [e52 i q] at e
      refine gSrv_x g1 hg' x q hMM ?_
      exact gSrv_f (gFr_O o q) g4 (g5 i hi e)
  · intro i hi e
    by_cases q : i = s
    · subst q
      show gDn M' g' i (if i = i then hs else H i)
      rw [if_pos rfl]
      exact hdn (h52.symm.trans e)
    · show gDn M' g' i (if i = s then hs else H i)
      rw [if_neg q]
      rw [e52 i q] at e
      exact gDn_x g1 x q hMM (g6 i hi e)
  · intro i hi l hl
    by_cases q : i = s
    · subst q
      exact hw hi l hl
    · rw [(o.2.1 i q).1] at hl
      have hf : gN (l.1 2) ≠ s := by
        rw [hfrom i hi l hl, gN_n (by omega)]
        exact q
      exact gLt_x g1 x hK g4 (fun c k y => (x.2.2.2.2.2.1 _ _ _ _ hf).mpr y) (fun j y => (x.2.2.2.2.2.2.1 _ _ _ hf).mpr y) (fun c k y => y) (g7 i hi l hl) hMM
  · intro y hy
    rcases hway y hy with ⟨w, hw, e⟩ | e
    · rw [e]
      exact gLt_x g1 x hK g4 (fun c k y => x.2.2.2.1 _ _ _ _ y) (fun j y => x.2.2.2.2.1 _ _ _ y) (fun c k y => g1.2.2.2.2.2.2.2.2.1.1 _ _ _ _ y) (g8 w hw) hMM
    · exact e
end GO
/-! steps that say nothing new; letters; stepping down -/
section GS
variable {s z M : Nat} {a b : AA} {g g' : GR} {H : Nat → GH}
theorem gH_s : (fun i => if i = s then H s else H i) = H := by
  funext i
  by_cases q : i = s
  · rw [if_pos q, q]
  · rw [if_neg q]
theorem GI_s (h : GI z M b g (fun i => if i = s then H s else H i)) : GI z M b g H := by
  rw [gH_s] at h
  exact h
/-- the letters that wait are their server's own -/
def gPh (a : AA) : Prop := ∀ i, i < 7 → Ph i (sL i) a
theorem gPh_f (W : gPh a) : ∀ i, i < 7 → ∀ l ∈ aWt a i, l.1 2 = Int32.ofNat i := fun i hi l hl => ((W i hi).2.2.1 l hl).1
theorem gPh_P {k : Nat} (h : Pa s (sL s) k a b) (W : gPh a) : gPh b := by
  intro i hi
  by_cases q : i = s
  · subst q
    exact Pa_H h (W i hi)
  · exact On_Ph (Pa_On h) q (W i hi)
theorem GI_A {W T : List Nat} (G : GI z M a g H) (k : AFr W T a b) (q : dj gFA W = true) (q2 : gTs gFA T = false) (q0 : 0 ∉ T) (q1 : 1 ∉ T) : GI z M b g H := by
  have q10 : 10 ∉ T := fun y => by
    unfold gTs at q2
    simp only [Bool.or_eq_false_iff] at q2
    have := List.contains_iff_mem.mpr y
    rw [q2.2] at this
    cases this
  obtain ⟨g1, g2, g3, g4, g5, g6, g7, g8⟩ := G
  have e52 : ∀ i, aS b 52 i = aS a 52 i := fun i => k.1 52 (dj_m q (by decide)) i
  have eK : aAk b = aAk a := k.2.2.2.2.2.2.2.2.2.2.2.1 q10
  refine ⟨g1, g2, g3, by rw [eK]; exact g4, fun i hi e => ?_, fun i hi e => g6 i hi ((e52 i).symm.trans e), ?_, ?_⟩
  · exact gSrv_f (gFr_A k q q2) g4 (g5 i hi ((e52 i).symm.trans e))
  · rw [eK, k.2.2.1 q1]
    exact g7
  · rw [eK, k.2.1 q0]
    exact g8
theorem gLt_m (hg : gRS z g) {K : List AK} (hE : gEnt K g) {X X' : Nat → Nat → Nat → Nat → Prop} {Y Y' : Nat → Nat → Nat → Prop} {l : AL} (hX : ∀ c k, X (gN (l.1 5)) (gN (l.1 2)) c k → X' (gN (l.1 5)) (gN (l.1 2)) c k) (hY : ∀ i, Y (gN (l.1 5)) (gN (l.1 2)) i → Y' (gN (l.1 5)) (gN (l.1 2)) i) (hXM : ∀ c k, X (gN (l.1 5)) (gN (l.1 2)) c k → gMV g (gN (l.1 5)) (gN (l.1 2)) c k) (h : gLt K z M g X Y l) : gLt K z M g X' Y' l := gLt_x (s := 0) hg gX_r gKle_r hE hX hY hXM h (Nat.le_refl _)
theorem GI_K (G : GI z M a g H) (h : aAk b = aAk a) (hf : ∀ i, gFr gFA i a b) (hw : ∀ i, i < 7 → ∀ l ∈ aWt b i, l ∈ aWt a i ∨ gLt (aAk a) z M g (gMV g) (gMA g) l) (hy : ∀ y ∈ aWay b, (∃ w ∈ aWay a, y.2.2 = w.2.2) ∨ gLt (aAk a) z M g (gRV g) (gRA g) y.2.2) : GI z M b g H := by
  obtain ⟨g1, g2, g3, g4, g5, g6, g7, g8⟩ := G
  have e52 : ∀ i, aS b 52 i = aS a 52 i := fun i => (hf i).1 52 (by decide) (by decide)
  refine ⟨g1, g2, g3, by rw [h]; exact g4, fun i hi e => gSrv_f (hf i) g4 (g5 i hi ((e52 i).symm.trans e)), fun i hi e => g6 i hi ((e52 i).symm.trans e), ?_, ?_⟩
  · intro i hi l hl
    rw [h]
    rcases hw i hi l hl with y | y
    · exact g7 i hi l y
    · exact y
  · intro y hy2
    rw [h]
    rcases hy y hy2 with ⟨w, w1, w2⟩ | w
    · rw [w2]
      exact g8 w w1
    · exact w
/-- a server's own words are sure while it is not dirty -/
theorem gLt_sure (G : GI z M a g H) (hs : s < 7) (hup : aS a 52 s = 1) (h71 : aS a 71 s = 0) {l : AL} (hf : l.1 2 = Int32.ofNat s) (h : gLt (aAk a) z M g (gMV g) (gMA g) l) : gLt (aAk a) z M g (gRV g) (gRA g) l := by
  have hv := (G.2.2.2.2.1 s hs hup).2.2.2.2.2.1.2 h71
  have e : gN (l.1 2) = s := by rw [hf]; exact gN_n (by omega)
  refine gLt_m G.1 G.2.2.2.1 (fun c k y => ?_) (fun i y => ?_) (fun c k y => y) h
  · rw [e] at y ⊢
    exact hv.1 _ c k y
  · rw [e] at y ⊢
    exact hv.2 _ i y
theorem GI_post (G : GI z M a g H) (hs : s < 7) (hup : aS a 52 s = 1) {l : AL} (hf : l.1 2 = Int32.ofNat s) (h : gLt (aAk a) z M g (gMV g) (gMA g) l) : GI z M (A_post a s l) g H := by
  refine GI_K G (AFr_post.2.2.2.2.2.2.2.2.2.2.2.1 (by decide)) (fun i => gFr_A AFr_post (by decide) (by decide)) ?_ ?_
  · intro i hi x hx
    by_cases q71 : aS a 71 s = 0
    · have e : A_post a s l = A_sendOut a l := by unfold A_post; rw [if_pos q71]
      rw [e, AFr_sendOut.2.2.1 (by decide)] at hx
      exact Or.inl hx
    · have e : A_post a s l = if (aWt a s).length < 32 then aWtS a s (aWt a s ++ [l]) else a := by unfold A_post; rw [if_neg q71]
      rw [e] at hx
      by_cases q : (aWt a s).length < 32
      · rw [if_pos q] at hx
        have e2 : aWt (aWtS a s (aWt a s ++ [l])) i = if i = s then aWt a s ++ [l] else aWt a i := rfl
        rw [e2] at hx
        by_cases w : i = s
        · rw [if_pos w] at hx
          rcases List.mem_append.mp hx with y | y
          · rw [w]
            exact Or.inl y
          · rw [List.mem_singleton.mp y]
            exact Or.inr h
        · rw [if_neg w] at hx
          exact Or.inl hx
      · rw [if_neg q] at hx
        exact Or.inl hx
  · intro y hy
    by_cases q71 : aS a 71 s = 0
    · have e : A_post a s l = A_sendOut a l := by unfold A_post; rw [if_pos q71]
      rw [e] at hy
      rcases Pa_way (Pa.out (s := s) (P := fun x => x = l) rfl) y hy with w | w
      · exact Or.inl ⟨y, w, rfl⟩
      · refine Or.inr ?_
        rw [w]
        exact gLt_sure G hs hup q71 hf h
    · have e : A_post a s l = if (aWt a s).length < 32 then aWtS a s (aWt a s ++ [l]) else a := by unfold A_post; rw [if_neg q71]
      rw [e] at hy
      by_cases q : (aWt a s).length < 32
      · rw [if_pos q] at hy
        exact Or.inl ⟨y, hy, rfl⟩
      · rw [if_neg q] at hy
        exact Or.inl ⟨y, hy, rfl⟩
theorem soil_n : ¬ aS (aSoil a s) 71 s = 0 := by
  unfold aSoil
  by_cases q : aS a 71 s = 0
  · rw [if_pos q]
    unfold aAdd
    rw [aS_If (by decide), aS_If (by decide), aS_If (by decide), evI_e]
    decide
  · rw [if_neg q]
    exact q
theorem slot_n : ¬ aS (A_writeSlot a s) 71 s = 0 := soil_n
/-- stepping down: what it leaves -/
theorem stepDown_f {t l : Int32} : aS (A_stepDown a s t l) 73 s = 0 ∧ (aS a 53 s < t → aS (A_stepDown a s t l) 53 s = t ∧ aS (A_stepDown a s t l) 54 s = -1 ∧ ¬ aS (A_stepDown a s t l) 71 s = 0) ∧ (¬ aS a 53 s < t → aS (A_stepDown a s t l) 53 s = aS a 53 s ∧ aS (A_stepDown a s t l) 54 s = aS a 54 s ∧ aS (A_stepDown a s t l) 71 s = aS a 71 s) := by
  have key : ∀ a1 : AA, (∀ f, f = 53 ∨ f = 54 ∨ f = 71 → aS (aI (aI (if aS a1 73 s = 3 then aI (aDropReq (A_drawAlarm a1 s) s) 80 s (-1) else a1) 73 s 0) 74 s l) f s = aS a1 f s) := by
    intro a1 f hf
    have hn : ¬ f = 73 ∧ ¬ f = 74 ∧ ¬ f = 80 ∧ f ∉ [2, 29, 30] := by rcases hf with rfl | rfl | rfl <;> decide
    rw [aS_If hn.2.1, aS_If hn.1]
    by_cases q : aS a1 73 s = 3
    · rw [if_pos q, aS_If hn.2.2.1]
      exact AFr_drawAlarm.1 f hn.2.2.2 s
    · rw [if_neg q]
  have e : A_stepDown a s t l = aI (aI (if aS (if aS a 53 s < t then A_writeSlot (aI (aI a 53 s t) 54 s (-1)) s else a) 73 s = 3 then aI (aDropReq (A_drawAlarm (if aS a 53 s < t then A_writeSlot (aI (aI a 53 s t) 54 s (-1)) s else a) s) s) 80 s (-1) else (if aS a 53 s < t then A_writeSlot (aI (aI a 53 s t) 54 s (-1)) s else a)) 73 s 0) 74 s l := rfl
  refine ⟨?_, fun q => ?_, fun q => ?_⟩
  · rw [e, aS_If (by decide), evI_e]
  · rw [e, if_pos q]
    refine ⟨(key _ 53 (Or.inl rfl)).trans ?_, (key _ 54 (Or.inr (Or.inl rfl))).trans ?_, fun y => ?_⟩
    · rw [AFr_writeSlot.1 53 (by decide) s, aS_If (by decide), evI_e]
    · rw [AFr_writeSlot.1 54 (by decide) s, evI_e]
    · rw [key _ 71 (Or.inr (Or.inr rfl))] at y
      exact slot_n y
  · rw [e, if_neg q]
    exact ⟨key _ 53 (Or.inl rfl), key _ 54 (Or.inr (Or.inl rfl)), key _ 71 (Or.inr (Or.inr rfl))⟩
theorem gN_le {x y : Int32} (hx : 0 ≤ x) : gN x ≤ gN y ↔ (x ≤ y ∨ gN x = 0) := by
  have h0 : 0 ≤ x.toInt := Int32.le_iff_toInt_le.mp hx
  show x.toInt.toNat ≤ y.toInt.toNat ↔ (x ≤ y ∨ x.toInt.toNat = 0)
  rw [Int32.le_iff_toInt_le]
  omega
theorem gN_lt {x y : Int32} (hx : 0 ≤ x) : x < y ↔ gN x < gN y := by
  have h0 : 0 ≤ x.toInt := Int32.le_iff_toInt_le.mp hx
  show _ ↔ x.toInt.toNat < y.toInt.toNat
  rw [Int32.lt_iff_toInt_lt]
  omega
theorem GI_stepDown {t l : Int32} (G : GI z M a g H) (hs : s < 7) (hup : aS a 52 s = 1) (ht : aS a 53 s ≤ t) (htM : gN t ≤ M) (W : gPh a) (hl : aInR l (-1) 6 = true) : GI z M (A_stepDown a s t l) g H := by
  have k := AFr_stepDown (a := a) (s := s) (t := t) (l := l)
  have hK : aAk (A_stepDown a s t l) = aAk a := k.2.2.2.2.2.2.2.2.2.2.2.1 (by decide)
  obtain ⟨f1, f2, f3⟩ := stepDown_f (a := a) (s := s) (t := t) (l := l)
  have fr : gFr (gFA.filter (fun f => !([53, 54, 71, 73].contains f))) s a (A_stepDown a s t l) := gFr_A k (by decide) (by decide)
  refine GI_s (s := s) ?_
  refine GI_act G G.1 gX_r (Pa_On (Pa_stepDown (W s hs) hl)) (Nat.le_refl _) G.2.2.1 (by rw [hK]; exact G.2.2.2.1) (k.1 52 (by decide) s) G.2.1 (fun up => ?_) (fun dn => G.2.2.2.2.2.1 s hs dn) (fun hs l hl => ?_) (fun y hy => Or.inl ⟨y, by rw [k.2.1 (by decide)] at hy; exact hy, rfl⟩) (gPh_f W)
  · obtain ⟨q1, q2, q3, q4, q5, q6, q7, q8, q9⟩ := G.2.2.2.2.1 s hs hup
    have r3 : aS (A_stepDown a s t l) 73 s = 2 → False := fun y => by rw [f1] at y; exact absurd y (by decide)
    have r4 : aS (A_stepDown a s t l) 73 s = 3 → False := fun y => by rw [f1] at y; exact absurd y (by decide)
    by_cases w : aS a 53 s < t
    · obtain ⟨e1, e2, e3⟩ := f2 w
      have eT : gTm (A_stepDown a s t l) s = gN t := by unfold gTm; rw [e1]
      have eV : gV (A_stepDown a s t l) s = none := by unfold gV; rw [e2]; exact if_pos (by decide)
      have hlt : gTm a s < gTm (A_stepDown a s t l) s := by rw [eT]; exact (gN_lt q3.1).mp w
      refine ⟨gNum_f fr (by decide) q1, gMem_f fr (by decide) q2, ⟨?_, q3.2.1, fun x hx => ?_, by rw [eT]; exact htM⟩, gCom_f fr (by decide) q4, gMch_f fr (by decide) G.2.2.2.1 q4 q5, ⟨rH_up hlt q6.1, fun y => absurd y e3⟩, ⟨fun y => absurd y r3, fun y => absurd y r4⟩, gAsm_f fr (by decide) G.2.2.2.1 q8, ⟨q9.1, q9.2.1, ?_, fun y => absurd y e3⟩⟩
      · rw [e1]
        exact Int32.le_trans q3.1 ht
      · have := q3.2.2.1 x hx
        omega
      · refine Or.inl ?_
        rcases q9.2.2.1 with y | y
        · omega
        · omega
    · obtain ⟨e1, e2, e3⟩ := f3 w
      have eT : gTm (A_stepDown a s t l) s = gTm a s := by unfold gTm; rw [e1]
      have eV : gV (A_stepDown a s t l) s = gV a s := by unfold gV; rw [e2]
      refine ⟨gNum_f fr (by decide) q1, gMem_f fr (by decide) q2, ⟨?_, q3.2.1, fun x hx => ?_, by rw [eT]; exact q3.2.2.2⟩, gCom_f fr (by decide) q4, gMch_f fr (by decide) G.2.2.2.1 q4 q5, ⟨?_, fun y => ?_⟩, ⟨fun y => absurd y r3, fun y => absurd y r4⟩, gAsm_f fr (by decide) G.2.2.2.1 q8, ⟨q9.1, q9.2.1, ?_, fun y => by rw [e3] at y; rw [eT, eV]; exact q9.2.2.2 y⟩⟩
      · rw [e1]
        exact q3.1
      · rw [eT]
        exact q3.2.2.1 x hx
      · rw [eT, eV]
        exact q6.1
      · rw [e3] at y
        exact q6.2 y
      · rw [eT, eV]
        exact q9.2.2.1
  · rw [hK]
    rw [k.2.2.1 (by decide)] at hl
    exact G.2.2.2.2.2.2.1 s hs l hl
end GS
/-! a leader writes an entry -/
theorem memAt_app (e : AE) : ∀ l : List AE, aMemAt (l ++ [e]) = if e.2.1 = 1 then l.length + 1 else aMemAt l := by
  intro l
  induction l with
  | nil =>
    show (if 0 < aMemAt [] then aMemAt [] + 1 else if e.2.1 = 1 then 1 else 0) = _
    rw [if_neg (show ¬ 0 < aMemAt [] by decide)]
    rfl
  | cons x l ih =>
    have e1 : ∀ r : List AE, aMemAt (x :: r) = if 0 < aMemAt r then aMemAt r + 1 else if x.2.1 = 1 then 1 else 0 := fun r => rfl
    rw [List.cons_append, e1, ih, e1]
    by_cases q : e.2.1 = 1
    · rw [if_pos q, if_pos q, if_pos (by omega)]
      rfl
    · rw [if_neg q, if_neg q]
theorem gAt_app {P Q : List AE} {n : Nat} (h : n ≤ P.length) : gAt (P ++ Q) n = gAt P n := by
  unfold gAt
  by_cases q : n = 0
  · rw [if_pos q, if_pos q]
  · rw [if_neg q, if_neg q, List.getD_eq_getElem?_getD, List.getD_eq_getElem?_getD, List.getElem?_append_left (by omega)]
theorem gAt_pre {P Q : List AE} {n : Nat} (hp : P <+: Q) (h : n ≤ P.length) : gAt Q n = gAt P n := by
  obtain ⟨w, rfl⟩ := hp
  exact gAt_app h
theorem i_suc {n : Nat} : Int32.ofNat n + 1 = Int32.ofNat (n + 1) := by
  rw [Int32.ofNat_add]
  rfl
section GA
variable {s z M b : Nat} {a : AA} {g : GR} {H : Nat → GH} {e : AE} {P : List AE}
theorem append_v : aS (A_append a s e) 56 s = aLast a s + 1 ∧ aLg (A_append a s e) s = aLg a s ++ [e] ∧ (e.2.1 = 1 → aS (A_append a s e) 64 s = aLast a s + 1 ∧ aS (A_append a s e) 65 s = e.2.2.2.1) ∧ (¬ e.2.1 = 1 → aS (A_append a s e) 64 s = aS a 64 s ∧ aS (A_append a s e) 65 s = aS a 65 s) := by
  have hs : ∀ (c : AA) (f : Nat), f ∉ [2, 31, 32, 71] → aS (aSoil c s) f s = aS c f s := fun c f hf => AFr_soil.1 f hf s
  have hl : ∀ c : AA, aLg (aSoil c s) s = aLg c s := fun c => congrFun (AFr_soil.2.2.2.1 (by decide)) s
  have sg : ∀ f, f = 64 ∨ f = 65 → aS (aSeg a s).1 f s = aS a f s := by
    intro f hf
    unfold aSeg
    dsimp only
    split
    · have n : f ≠ 43 := by rcases hf with rfl | rfl <;> decide
      exact aS_If (a := aPut a s ((aFree a s).getD 0) (aF 1 24 (aLast a s + 1) (aTermAt a s (aLast a s)) 0 [] ([], []))) n
    · rfl
  unfold A_append
  dsimp only
  by_cases q : e.2.1 = 1
  · rw [if_pos q]
    refine ⟨?_, ?_, fun _ => ⟨?_, ?_⟩, fun y => absurd q y⟩
    · rw [hs _ _ (by decide), aS_If (by decide), aS_If (by decide), evI_e]
    · rw [hl]
      exact if_pos rfl
    · rw [hs _ _ (by decide), aS_If (by decide), evI_e]
    · rw [hs _ _ (by decide), evI_e]
  · rw [if_neg q]
    refine ⟨?_, ?_, fun y => absurd y q, fun _ => ⟨?_, ?_⟩⟩
    · rw [hs _ _ (by decide), evI_e]
    · rw [hl]
      exact if_pos rfl
    · rw [hs _ _ (by decide), aS_If (by decide)]
      exact sg 64 (Or.inl rfl)
    · rw [hs _ _ (by decide), aS_If (by decide)]
      exact sg 65 (Or.inr rfl)
theorem gNum_append (h : gNum a s P b) (hr : P.length < b + 300) : gNum (A_append a s e) s (P ++ [e]) b := by
  obtain ⟨h1, h2, h3, h4, h5, h6⟩ := h
  obtain ⟨v1, v2, -, -⟩ := append_v (a := a) (s := s) (e := e)
  refine ⟨?_, (AFr_app.1 55 (by decide) s).trans h2, by rw [List.length_append]; omega, by rw [List.length_append]; simp; omega, ?_, ?_⟩
  · show aS (A_append a s e) 56 s = _
    rw [v1, h1, i_suc]
    simp
  · rw [v2, h5, List.drop_append_of_le_length h3]
  · rw [AFr_app.1 57 (by decide) s, h6, gAt_app h3]
theorem gMem_append (h : gNum a s P b) (m : gMem z a s P b) : gMem z (A_append a s e) s (P ++ [e]) b := by
  obtain ⟨h1, h2, h3, h4, h5, h6⟩ := h
  obtain ⟨m1, m2, m3, m4, m5⟩ := m
  obtain ⟨-, -, v3, v4⟩ := append_v (a := a) (s := s) (e := e)
  have e58 : aS (A_append a s e) 58 s = aS a 58 s := AFr_app.1 58 (by decide) s
  have ed : (P ++ [e]).drop b = P.drop b ++ [e] := List.drop_append_of_le_length h3
  have et : (P ++ [e]).take b = P.take b := List.take_append_of_le_length h3
  refine ⟨by rw [e58]; exact m1, by rw [e58, et]; exact m2, by rw [e58]; exact m3, ?_, ?_⟩
  · rw [ed, memAt_app]
    by_cases q : e.2.1 = 1
    · rw [(v3 q).1, if_pos q, h1, i_suc, List.length_drop]
      congr 1
      omega
    · rw [(v4 q).1, if_neg q]
      exact m4
  · rw [ed, memC_app, memC_1, e58]
    by_cases q : e.2.1 = 1
    · rw [(v3 q).2, if_pos q]
    · rw [(v4 q).2, if_neg q]
      exact m5
theorem append_n : ¬ aS (A_append a s e) 71 s = 0 := soil_n
theorem memC_cd : ∀ (l : List AE) (c : Int32), cdOK c → (∀ e ∈ l, e.2.1 = 1 → cdOK e.2.2.2.1) → cdOK (aMemC c l) := by
  intro l
  induction l with
  | nil => exact fun c h _ => h
  | cons e l ih =>
    intro c hc he
    refine ih _ ?_ (fun x hx => he x (List.mem_cons_of_mem e hx))
    by_cases q : e.2.1 = 1
    · rw [if_pos q]
      exact he e List.mem_cons_self q
    · rw [if_neg q]
      exact hc
/-- the entries of a coherent path are good -/
theorem gCoh_ok {K : List AK} (hE : gEnt K g) (hc : rcoh gtm (gL g) P) : ∀ x ∈ P, gEok K x := by
  intro x hx
  obtain ⟨n, hn, -⟩ := r_mem hx
  obtain ⟨l1, -⟩ := List.getElem?_eq_some_iff.mp hn
  refine hE.2 (gtm x) x ((hc n x hn).subset ?_)
  exact r_take' hn (by omega)
/-- the members: the code and what the path says -/
theorem gMem_code {K : List AK} (hE : gEnt K g) (hc : rcoh gtm (gL g) P) (m : gMem z a s P b) : 0 ≤ aS a 65 s ∧ gN (aS a 65 s) = rcf gmc z P ∧ cdOK (aS a 65 s) := by
  obtain ⟨m1, m2, m3, m4, m5⟩ := m
  have ok := gCoh_ok hE hc
  have hd : ∀ x ∈ P.drop b, gEok K x := fun x hx => ok x ((List.drop_sublist b P).subset hx)
  obtain ⟨c1, c2⟩ := memC_cf (P.drop b) (aS a 58 s) m1 (fun x hx q => ((hd x hx).2.2 q).2)
  rw [m5]
  refine ⟨c1, ?_, memC_cd _ _ m3 (fun x hx q => ((hd x hx).2.2 q).1)⟩
  rw [c2, m2]
  have e1 := (rcf_app (mc := gmc) (c0 := z) (p := P.take b) (w := P.drop b)).symm
  rw [List.take_append_drop] at e1
  exact e1
theorem gX_app {t : Nat} {x : AE} (hle : rLe (gL g) (gL (gapp g t x))) (hel : ∃ e ∈ gE g, e.1 = t ∧ e.2.1 = s) : gX s g (gapp g t x) := by
  refine ⟨hle, fun _ h => h, List.prefix_refl _, fun _ _ _ _ h => h, fun _ _ _ h => h, fun _ _ _ _ _ => Iff.rfl, fun _ _ _ _ => Iff.rfl, fun _ _ _ h => Or.inl h, fun _ _ _ => rfl, fun _ h => Or.inl h, fun t' => ?_, List.prefix_refl _, fun _ _ _ _ _ h => h, fun _ _ _ _ h => h⟩
  by_cases q : t' = t
  · rw [q]
    exact Or.inr hel
  · refine Or.inl ?_
    show (if t' = t then gL g t ++ [x] else gL g t') = gL g t'
    rw [if_neg q]
theorem gAt_len {P : List AE} : gN (gAt P P.length) = rlt gtm P := by
  unfold gAt rlt
  cases P with
  | nil => rfl
  | cons x l =>
    rw [if_neg (by simp), List.getLast?_eq_getElem?]
    have : (x :: l).length - 1 < (x :: l).length := by simp
    rw [List.getD_eq_getElem?_getD, List.getElem?_eq_getElem this]
    rfl
theorem GI_append (G : GI z M a g H) (hs : s < 7) (hup : aS a 52 s = 1) (W : gPh a) (h3 : aS a 73 s = 3) (ht : e.1 = aS a 53 s) (hok : gEok (aAk a) e) (hroom : (aLg a s).length < 300) (hM : M + 1 < 2147483648) (hmc : ∀ c, gmc e = some c → gsuc (gN (aS a 65 s)) c ∧ aS a 64 s ≤ aS a 75 s) :
    GI z (M + 1) (A_append a s e) (gapp g (gTm a s) e) (fun i => if i = s then ((H s).1 ++ [e], (H s).2) else H i) := by
  obtain ⟨q1, q2, q3, q4, q5, q6, q7, q8, q9⟩ := G.2.2.2.2.1 s hs hup
  obtain ⟨r1, ⟨el, hel, el1, el2⟩, r4, r5, r6, r7, r8⟩ := q7.2 h3
  have hE := G.2.2.2.1
  obtain ⟨c1, c2, c3⟩ := gMem_code hE q3.2.1 q2
  have hx : gtm e = gTm a s := by unfold gtm gTm; rw [ht]
  have hlen : (H s).1.length ≤ M := by rw [← r4]; exact G.2.2.1 _
  have hroom' : (H s).1.length < (H s).2.1 + 300 := by
    have := q1.2.2.1
    rw [q1.2.2.2.2.1, List.length_drop] at hroom
    omega
  obtain ⟨hle, hS⟩ := rS_gapp G.1 hx ⟨el, hel, el1⟩ (fun c hc => by
    obtain ⟨m1, m2⟩ := hmc c hc
    rw [r4]
    refine ⟨by rw [← c2]; exact m1, (H s).1.take ((H s).2.1 + aMemAt ((H s).1.drop (H s).2.1)), List.take_prefix _ _, ⟨(H s).1.drop ((H s).2.1 + aMemAt ((H s).1.drop (H s).2.1)), (List.take_append_drop _ _).symm, fun x hx => ?_⟩, ?_⟩
    · rw [← List.drop_drop] at hx
      exact (memAt_nm ((H s).1.drop (H s).2.1)).2 x hx
    · have hcm : (H s).2.1 + aMemAt ((H s).1.drop (H s).2.1) ≤ gN (aS a 75 s) := by
        have h1 := (memAt_nm ((H s).1.drop (H s).2.1)).1
        rw [List.length_drop] at h1
        have h2 := q1.2.2.1
        rw [q2.2.2.2.1] at m2
        have h3 := Int32.le_iff_toInt_le.mp m2
        rw [Int32.toInt_ofNat_of_lt (by omega)] at h3
        have h4 := gN_i q4.1
        omega
      exact rCM_sub (List.take_prefix_take_left hcm) r5)
  have hxx := gX_app (s := s) hle ⟨el, hel, el1, el2⟩
  have hLt : gL (gapp g (gTm a s) e) (gTm a s) = (H s).1 ++ [e] := by
    show (if gTm a s = gTm a s then gL g (gTm a s) ++ [e] else gL g (gTm a s)) = _
    rw [if_pos rfl, r4]
  have k := AFr_app (a := a) (s := s) (e := e)
  have hK : aAk (A_append a s e) = aAk a := k.2.2.2.2.2.2.2.2.2.2.2.1 (by decide)
  have fr : gFr (gFA.filter (fun f => !([56, 64, 65, 71, 2000].contains f))) s a (A_append a s e) := gFr_A k (by decide) (by decide)
  have hT : gTm (A_append a s e) s = gTm a s := gTm_f fr (by decide)
  have hV : gV (A_append a s e) s = gV a s := gV_f fr (by decide)
  have e75 : aS (A_append a s e) 75 s = aS a 75 s := fr.1 75 (by decide) (by decide)
  have e76 : aS (A_append a s e) 76 s = aS a 76 s := fr.1 76 (by decide) (by decide)
  have hY := G.1.2.2.2.2.2.2.2.2.1
  have htk : ∀ n, n ≤ (H s).1.length → ((H s).1 ++ [e]).take n = (H s).1.take n := fun n hn => List.take_append_of_le_length hn
  have hcm := q4.2.2.2.2.1
  refine GI_act G hS hxx (Pa_On (Pa_append (W s hs))) (Nat.le_succ M) (fun t => ?_) ?_ (k.1 52 (by decide) s) (fun t v c k h => G.2.1 t v c k h) (fun up => ?_) (fun dn => ?_) (fun _ l hl => ?_) (fun y hy => Or.inl ⟨y, by rw [k.2.1 (by decide)] at hy; exact hy, rfl⟩) (gPh_f W)
  · show (if t = gTm a s then gL g (gTm a s) ++ [e] else gL g t).length ≤ M + 1
    have := G.2.2.1 t
    have := G.2.2.1 (gTm a s)
    split
    · rw [List.length_append]
      simp
      omega
    · omega
  · rw [hK]
    refine ⟨hE.1, ?_⟩
    intro t x hx
    have hx : x ∈ (if t = gTm a s then gL g (gTm a s) ++ [e] else gL g t) := hx
    by_cases q : t = gTm a s
    · rw [if_pos q] at hx
      rcases List.mem_append.mp hx with y | y
      · exact hE.2 _ x y
      · rw [List.mem_singleton.mp y]
        exact hok
    · rw [if_neg q] at hx
      exact hE.2 _ x hx
  · refine ⟨gNum_append q1 hroom', gMem_append q1 q2, ⟨?_, ?_, ?_, by rw [hT]; exact Nat.le_succ_of_le q3.2.2.2⟩, ⟨?_, ?_, ?_, ?_, ?_, ?_, ?_, by rw [fr.1 77 (by decide) (by decide)]; exact q4.2.2.2.2.2.2.2⟩, ⟨?_, ?_, ?_⟩, ⟨?_, fun y => absurd y append_n⟩, ⟨?_, ?_⟩, ?_, ⟨?_, ?_, ?_, fun y => absurd y append_n⟩⟩
    · rw [fr.1 53 (by decide) (by decide)]
      exact q3.1
    · show rcoh gtm (gL (gapp g (gTm a s) e)) ((H s).1 ++ [e])
      rw [← hLt]
      exact hS.2.2.2.2.1 _
    · intro x hxm
      rw [hT]
      rcases List.mem_append.mp hxm with y | y
      · exact q3.2.2.1 x y
      · rw [List.mem_singleton.mp y, hx]
        exact Nat.le_refl _
    · rw [e75]; exact q4.1
    · rw [e76]; exact q4.2.1
    · rw [e76]; exact q4.2.2.1
    · rw [e76, e75]; exact q4.2.2.2.1
    · rw [e75, List.length_append]; omega
    · rw [e75, htk _ hcm]
      exact rCO_x hle (fun _ h => h) q4.2.2.2.2.2.1
    · show aS (A_append a s e) 77 s ≤ aS (A_append a s e) 56 s
      rw [fr.1 77 (by decide) (by decide), (append_v (a := a) (s := s) (e := e)).1]
      have h77 := Int32.le_iff_toInt_le.mp q4.2.2.2.2.2.2.1
      refine Int32.le_iff_toInt_le.mpr ?_
      rw [q1.1] at h77 ⊢
      rw [i_suc, Int32.toInt_ofNat_of_lt (by omega)]
      rw [Int32.toInt_ofNat_of_lt (by omega)] at h77
      omega
    · rw [fr.2.2.2.1 (by decide), e76, hK, htk _ (Nat.le_trans q4.2.2.2.1 hcm)]
      exact q5.1
    · rw [fr.2.2.2.2.1 (by decide), hK, htk _ q1.2.2.1]
      exact q5.2.1
    · rw [fr.1 67 (by decide) (by decide), hK, htk _ q1.2.2.1]
      exact q5.2.2
    · rw [hT, hV]
      exact rH_mono (List.prefix_append _ _) (rH_le hle (fun _ h => h) (fun t v i y => hY.2.2 t v i y) q6.1)
    · intro y
      rw [fr.1 73 (by decide) (by decide), h3] at y
      exact absurd y (by decide)
    · intro _
      refine ⟨hV.trans r1, ⟨el, hel, el1.trans hT.symm, el2⟩, by rw [hT]; exact hLt, ?_, fun p hp => ?_, by rw [fr.1 53 (by decide) (by decide)]; exact r7, by rw [fr.1 77 (by decide) (by decide), hT]; exact gMt_x G.1 hS hxx ⟨el, hel, el1⟩ r8⟩
      · rw [hT, e75, htk _ hcm]
        exact rCM_x hle (fun _ h => h) r5
      · rw [fr.2.1 (by decide) p hp, hT]
        exact gMt_x G.1 hS hxx ⟨el, hel, el1⟩ (r6 p hp)
    · have := gAsm_f (g := g) fr (by decide) hE q8
      exact this.imp id (fun ⟨C, y1, y2, y3⟩ => ⟨C, y1, rCO_x hle (fun _ h => h) y2, y3⟩)
    · show (H s).2.2.1 ≤ ((H s).1 ++ [e]).length
      rw [List.length_append]
      have := q9.1
      omega
    · show rH gtm (gapp g (gTm a s) e) _ _ s _ _ (((H s).1 ++ [e]).take (max (H s).2.2.1 (H s).2.1))
      rw [htk _ (by have := q9.1; have := q1.2.2.1; omega)]
      exact rH_le hle (fun _ h => h) (fun t v i y => hY.2.2 t v i (hY.2.1 t v i y)) q9.2.1
    · rw [hT, hV]
      exact q9.2.2.1
  · rw [hup] at dn
    exact absurd dn (by decide)
  · rw [hK]
    rw [k.2.2.1 (by decide)] at hl
    exact gLt_x G.1 hxx gKle_r hE (fun _ _ y => y) (fun _ y => y) (fun _ _ y => y) (G.2.2.2.2.2.2.1 s hs l hl) (Nat.le_succ M)
end GA
/-! votes -/
section GV0
variable {s z M M' n b : Nat} {a c : AA} {g g' : GR} {H : Nat → GH} {P : List AE}
/-- one server acts without sending anything -/
theorem GI_me {W T : List Nat} {hs' : GH} (G : GI z M a g H) (hs : s < 7) (hup : aS a 52 s = 1) (Wp : gPh a) (k : AFr W T a c) (q0 : 0 ∉ T ∧ 1 ∉ T ∧ 10 ∉ T ∧ 52 ∉ W) (p : Pa s (sL s) n a c) (hg' : gRS z g') (x : gX s g g')
    (hm : (∀ t d k, gMV g t s d k → gMV g' t s d k) ∧ ∀ t i, gMA g t s i → gMA g' t s i) (hMM : M ≤ M') (hM : ∀ t, (gL g' t).length ≤ M') (hE : gEnt (aAk a) g') (hv : gVo g') (hme : gSrv z M' c g' s hs') : GI z M' c g' (fun i => if i = s then hs' else H i) := by
  have hK : aAk c = aAk a := k.2.2.2.2.2.2.2.2.2.2.2.1 q0.2.2.1
  refine GI_act G hg' x (Pa_On p) hMM hM (by rw [hK]; exact hE) (k.1 52 q0.2.2.2 s) hv (fun _ => hme) (fun dn => ?_) (fun _ l hl => ?_) (fun y hy => Or.inl ⟨y, by rw [k.2.1 q0.1] at hy; exact hy, rfl⟩) (gPh_f Wp)
  · rw [hup] at dn
    exact absurd dn (by decide)
  · rw [hK]
    rw [k.2.2.1 q0.2.1] at hl
    have e : gN (l.1 2) = s := by rw [gPh_f Wp s hs l hl]; exact gN_n (by omega)
    refine gLt_x G.1 x gKle_r G.2.2.2.1 (fun d k y => ?_) (fun i y => ?_) (fun _ _ y => y) (G.2.2.2.2.2.2.1 s hs l hl) hMM
    · rw [e] at y ⊢
      exact hm.1 _ _ _ y
    · rw [e] at y ⊢
      exact hm.2 _ _ y
theorem gNum_at (h : gNum a s P b) (hM : P.length < 2147483648) {m : Nat} (hn : b ≤ m) (hn2 : m ≤ P.length) : aTermAt a s (Int32.ofNat m) = gAt P m := by
  obtain ⟨h1, h2, h3, h4, h5, h6⟩ := h
  unfold aTermAt
  rw [h2]
  by_cases q : m = b
  · subst q
    rw [if_pos rfl]
    exact h6
  · rw [if_neg (fun y => q ((i_eqi (by omega) (by omega)).mp y))]
    have hh : aHas a s (Int32.ofNat m) = true := by
      unfold aHas
      rw [h1, h2, Bool.and_eq_true_iff, decide_eq_true_eq, decide_eq_true_eq, i_ltn (by omega) (by omega), Int32.lt_iff_toInt_lt, Int32.toInt_ofNat_of_lt (by omega), Int32.toInt_ofNat_of_lt (by omega)]
      omega
    rw [if_pos hh]
    unfold aEnt gAt
    rw [if_neg (by omega), h2, h5, i_subn (by omega), i_pre (by omega), i_cl (by omega), List.getD_eq_getElem?_getD, List.getElem?_drop, List.getD_eq_getElem?_getD]
    rw [show b + (m - b - 1) = m - 1 by omega]
    rfl
theorem gNum_lt (h : gNum a s P b) (hM : P.length < 2147483648) : aLastTerm a s = gAt P P.length := by
  unfold aLastTerm
  rw [h.1]
  exact gNum_at h hM h.2.2.1 (Nat.le_refl _)
/-- the terms of good entries are numbers -/
theorem gAt_0 {K : List AK} (hok : ∀ x ∈ P, gEok K x) {m : Nat} (hm : m ≤ P.length) : 0 ≤ gAt P m := by
  unfold gAt
  by_cases q : m = 0
  · rw [if_pos q]
    decide
  · rw [if_neg q, List.getD_eq_getElem?_getD, List.getElem?_eq_getElem (by omega)]
    exact Int32.le_of_lt (hok _ (List.getElem_mem _)).1
/-- a log as new as another one -/
theorem gAsNew {Q : List AE} {K : List AK} (h : gNum a s P b) (hM : P.length < 2147483648) (hMQ : Q.length < 2147483648) (hP : ∀ x ∈ P, gEok K x) (hn : aAsNew a s (Int32.ofNat Q.length) (gAt Q Q.length) = true) : rlt gtm P < rlt gtm Q ∨ (rlt gtm Q = rlt gtm P ∧ P.length ≤ Q.length) := by
  unfold aAsNew at hn
  rw [gNum_lt h hM, h.1, Bool.or_eq_true_iff, Bool.and_eq_true_iff, decide_eq_true_eq, decide_eq_true_eq, decide_eq_true_eq] at hn
  rcases hn with y | ⟨y1, y2⟩
  · left
    rw [← gAt_len, ← gAt_len]
    exact (gN_lt (gAt_0 hP (Nat.le_refl _))).mp y
  · right
    rw [← gAt_len, ← gAt_len, y1]
    exact ⟨rfl, (i_ltn (by omega) (by omega)).mp y2⟩
theorem gX_vote {t v : Nat} (hs : v = s) {d : Nat} : gX s g (gvote g t v d) := by
  subst hs
  refine ⟨rLe_refl, fun _ h => h, List.prefix_refl _, fun _ _ _ _ h => h, fun _ _ _ h => h, fun t' w d' k q => ⟨fun y => ?_, fun y => Or.inl y⟩, fun _ _ _ _ => Iff.rfl, fun t' d' k y => ?_, fun _ _ _ => rfl, fun _ h => Or.inl h, fun _ => Or.inl rfl, List.prefix_refl _, fun _ _ _ _ _ h => h, fun _ _ _ _ h => h⟩
  · rcases y with y | y
    · exact y
    · exact absurd y.2.1 q
  · rcases y with y | y
    · exact Or.inl y
    · exact Or.inr (Nat.le_of_eq y.2.2.2.symm)
theorem gLt_o {K : List AK} {X : Nat → Nat → Nat → Nat → Prop} {Y : Nat → Nat → Nat → Prop} {l : AL} (h3 : ¬ l.1 4 = 3) (h4 : l.1 4 = 4 → ¬ l.1 6 = 1) (h5 : ¬ l.1 4 = 5) (h6 : l.1 4 = 6 → ¬ l.1 6 = 1) (h7 : ¬ l.1 4 = 7) (h8 : l.1 4 = 8 → (0 ≤ l.1 7 ∧ 0 ≤ l.1 12) ∧ l.1 12 ≤ 0) (h10 : l.1 4 < 10 → 0 ≤ l.1 5 ∧ ¬ l.1 2 = l.1 3 ∧ (¬ l.1 4 = 1 → ¬ (l.1 4 = 2 ∧ l.1 6 = 1) → gN (l.1 5) ≤ M)) : gLt K z M g X Y l :=
  ⟨fun y => absurd y h3, fun y y2 => absurd y2 (h4 y), fun y => absurd y h5, fun y y2 => absurd y2 (h6 y), fun y => absurd y h7, fun y => ⟨(h8 y).1, Or.inl (h8 y).2⟩, h10⟩
theorem aB_t : aB true = 1 := rfl
theorem aB_f : ¬ aB false = 1 := by decide
/-- the vote told -/
theorem GI_vote (G : GI z M a g H) (hs : s < 7) (hup : aS a 52 s = 1) {f : Nat} (hf : f < 7) (hne : f ≠ s) {w : Bool} {kd t : Int32} (hk : kd = 2 ∨ kd = 4) (ht : 0 ≤ t) (htM : ¬ (kd = 2 ∧ w = true) → gN t ≤ M) (hv : kd = 4 → w = true → ∃ k, gMV g (gN t) s f k) : GI z M (aVote a s (Int32.ofNat f) kd t w) g H := by
  unfold aVote
  refine GI_post G hs hup rfl ?_
  have e4 : (aU (aLet (Int32.ofNat s) (Int32.ofNat f) kd t).1 6 (aB w)) 4 = kd := rfl
  have e6 : (aU (aLet (Int32.ofNat s) (Int32.ofNat f) kd t).1 6 (aB w)) 6 = aB w := rfl
  have hx : 0 ≤ t ∧ ¬ (Int32.ofNat s) = Int32.ofNat f ∧ (¬ kd = 1 → ¬ (kd = 2 ∧ aB w = 1) → gN t ≤ M) := ⟨ht, fun y => hne ((i_eqi (by omega) (by omega)).mp y).symm, fun _ y => htM (fun y2 => y ⟨y2.1, by rw [y2.2]; rfl⟩)⟩
  by_cases q : kd = 4 ∧ w = true
  · obtain ⟨q1, q2⟩ := q
    subst q1
    subst q2
    obtain ⟨k, hkv⟩ := hv rfl rfl
    refine ⟨fun y => absurd y (by decide : ¬ (4 : Int32) = 3), fun _ _ => ⟨k, ?_⟩, fun y => absurd y (by decide : ¬ (4 : Int32) = 5), fun y => absurd y (by decide : ¬ (4 : Int32) = 6), fun y => absurd y (by decide : ¬ (4 : Int32) = 7), fun y => absurd y (by decide : ¬ (4 : Int32) = 8), fun _ => hx⟩
    show gMV g (gN t) (gN (Int32.ofNat s)) (gN (Int32.ofNat f)) k
    rw [gN_n (by omega), gN_n (by omega)]
    exact hkv
  · have hkk : ∀ n : Int32, ¬ n = 2 ∧ ¬ n = 4 → kd = n → False := fun n hn y => by
      rcases hk with e | e
      · exact hn.1 (y.symm.trans e)
      · exact hn.2 (y.symm.trans e)
    refine gLt_o (fun y => hkk 3 (by decide) y) (fun y y2 => ?_) (fun y => hkk 5 (by decide) y) (fun y => (hkk 6 (by decide) y).elim) (fun y => hkk 7 (by decide) y) (fun y => (hkk 8 (by decide) y).elim) (fun _ => hx)
    cases w with
    | false => exact aB_f y2
    | true => exact q ⟨y, rfl⟩
theorem toOK_n {x : Int32} (h : aInR x 0 6 = true) : ∃ f, f < 7 ∧ x = Int32.ofNat f := by
  unfold aInR at h
  rw [Bool.and_eq_true_iff, decide_eq_true_eq, decide_eq_true_eq] at h
  have h1 := Int32.le_iff_toInt_le.mp h.1
  have h2 := Int32.le_iff_toInt_le.mp h.2
  rw [i_0] at h1
  rw [show (6 : Int32).toInt = 6 by decide] at h2
  refine ⟨x.toInt.toNat, by omega, ?_⟩
  apply Int32.toInt_inj.mp
  rw [Int32.toInt_ofNat_of_lt (by omega)]
  omega
/-- the role falls, in the same term -/
theorem GI_follow (G : GI z M a g H) (hs : s < 7) (hup : aS a 52 s = 1) (W : gPh a) : GI z M (A_drawAlarm (aI a 73 s 0) s) g H := by
  have k : AFr [73, 2, 29, 30] [] a (A_drawAlarm (aI a 73 s 0) s) := AFr_w (AFr_t AFr_I AFr_drawAlarm) (by decide) (by decide)
  have fr : gFr (gFA.filter (fun f => !([73].contains f))) s a (A_drawAlarm (aI a 73 s 0) s) := gFr_A k (by decide) (by decide)
  have e73 : aS (A_drawAlarm (aI a 73 s 0) s) 73 s = 0 := by rw [AFr_drawAlarm.1 73 (by decide) s, evI_e]
  refine GI_s (s := s) ?_
  obtain ⟨q1, q2, q3, q4, q5, q6, q7, q8, q9⟩ := G.2.2.2.2.1 s hs hup
  refine GI_me G hs hup W k (by decide) (Pa_d (Pa_nn (P := sL s) (by decide))) G.1 gX_r ⟨fun _ _ _ h => h, fun _ _ h => h⟩ (Nat.le_refl _) G.2.2.1 G.2.2.2.1 G.2.1 ?_
  exact ⟨gNum_f fr (by decide) q1, gMem_f fr (by decide) q2, gCoh_f fr (by decide) q3, gCom_f fr (by decide) q4, gMch_f fr (by decide) G.2.2.2.1 q4 q5, gPro_f fr (by decide) q6, ⟨fun y => by rw [e73] at y; exact absurd y (by decide), fun y => by rw [e73] at y; exact absurd y (by decide)⟩, gAsm_f fr (by decide) G.2.2.2.1 q8, gKp_f fr (by decide) q9⟩
/-- a vote is written -/
theorem GI_voted (G : GI z M a g H) (hs : s < 7) (hup : aS a 52 s = 1) (W : gPh a) {f : Nat} (hf : f < 7) (hne : f ≠ s) (hg' : gRS z (gvote g (gTm a s) s f)) (hH : rH gtm (gvote g (gTm a s) s f) (gMV (gvote g (gTm a s) s f)) (gMA g) s (gTm a s) (some f) (H s).1) (hvo : ∃ k, gRV g (gTm a s) f f k) (h54 : aS a 54 s < 0) (hr : ¬ aS a 73 s = 2 ∧ ¬ aS a 73 s = 3) : GI z M (A_writeSlot (aI a 54 s (Int32.ofNat f)) s) (gvote g (gTm a s) s f) H := by
  have k : AFr [54, 150, 43, 45, 46, 2, 31, 32, 71] [6] a (A_writeSlot (aI a 54 s (Int32.ofNat f)) s) := AFr_w (AFr_t AFr_I AFr_writeSlot) (by decide) (by decide)
  have fr : gFr (gFA.filter (fun f => !([54, 71].contains f))) s a (A_writeSlot (aI a 54 s (Int32.ofNat f)) s) := gFr_A k (by decide) (by decide)
  have e54 : aS (A_writeSlot (aI a 54 s (Int32.ofNat f)) s) 54 s = Int32.ofNat f := by rw [AFr_writeSlot.1 54 (by decide) s, evI_e]
  have eV : gV (A_writeSlot (aI a 54 s (Int32.ofNat f)) s) s = some f := by
    unfold gV
    rw [e54, if_neg (i_nn (by omega)), gN_n (by omega)]
  have eT : gTm (A_writeSlot (aI a 54 s (Int32.ofNat f)) s) s = gTm a s := gTm_f fr (by decide)
  have e73 := fr.1 73 (by decide) (by decide)
  refine GI_s (s := s) ?_
  obtain ⟨q1, q2, q3, q4, q5, q6, q7, q8, q9⟩ := G.2.2.2.2.1 s hs hup
  refine GI_me G hs hup W k (by decide) (Pa_0 (Pa_nn (P := sL s) (by decide)) (Pa_writeSlot (Pa_H (P := sL s) (Pa_nn (by decide)) (W s hs)))) hg' (gX_vote rfl) ⟨fun _ _ _ h => Or.inl h, fun _ _ h => h⟩ (Nat.le_refl _) G.2.2.1 G.2.2.2.1 (fun t v d j y => ?_) ?_
  · rcases y with y | ⟨y1, y2, y3, y4⟩
    · exact G.2.1 t v d j y
    · refine ⟨Nat.le_of_eq y4, ?_⟩
      rw [y1, y3]
      exact Or.inr hvo
  · refine ⟨gNum_f fr (by decide) q1, gMem_f fr (by decide) q2, gCoh_f (g := g) fr (by decide) q3, gCom_f (g := g) fr (by decide) q4, gMch_f (g := g) fr (by decide) G.2.2.2.1 q4 q5, ⟨?_, fun y => absurd y slot_n⟩, ⟨fun y => ?_, fun y => ?_⟩, gAsm_f (g := g) fr (by decide) G.2.2.2.1 q8, ⟨q9.1, q9.2.1, ?_, fun y => absurd y slot_n⟩⟩
    · rw [eT, eV]
      exact hH
    · rw [e73] at y
      exact absurd y hr.1
    · rw [e73] at y
      exact absurd y hr.2
    · rw [eT, eV]
      have hn : gV a s = none := if_pos h54
      have q9c := q9.2.2.1
      rw [hn] at q9c
      exact q9c.imp id (fun ⟨w1, w2⟩ => ⟨w1, Or.inl (w2.elim id id)⟩)
theorem gX_vs {t d : Nat} : gX s g (gsync (gvote g t s d) s) := by
  refine ⟨rLe_refl, fun _ h => h, List.prefix_refl _, fun _ _ _ _ h => Or.inl h, fun _ _ _ h => Or.inl h, fun t' w d' k q => ⟨fun y => ?_, fun y => Or.inl y⟩, fun _ _ _ _ => Iff.rfl, fun t' d' k y => ?_, fun _ _ _ => rfl, fun _ h => Or.inl h, fun _ => Or.inl rfl, List.prefix_refl _, fun t' v c k q h => ?_, fun t' v i q h => ?_⟩
  · rcases y with y | y
    · exact y
    · exact absurd y.2.1 q
  · rcases y with y | y
    · exact Or.inl y
    · exact Or.inr (Nat.le_of_eq y.2.2.2.symm)
  · rcases h with y | y
    · exact y
    · exact absurd y.1 q
  · rcases h with y | y
    · exact y
    · exact absurd y.1 q
/-- a vote is told once more -/
theorem GI_revote (G : GI z M a g H) (hs : s < 7) (hup : aS a 52 s = 1) (W : gPh a) {f : Nat} (hne : f ≠ s) (hg' : gRS z (gvote g (gTm a s) s f)) (hH : rH gtm (gvote g (gTm a s) s f) (gMV (gvote g (gTm a s) s f)) (gMA g) s (gTm a s) (some f) (H s).1) (hvo : ∃ k, gRV g (gTm a s) f f k) (hV : gV a s = some f) : ∃ g', GI z M a g' H ∧ ∃ k, gMV g' (gTm a s) s f k := by
  obtain ⟨q1, q2, q3, q4, q5, q6, q7, q8, q9⟩ := G.2.2.2.2.1 s hs hup
  have r2 : aS a 73 s = 2 → False := fun y => by
    have := (q7.1 y).1
    rw [hV] at this
    exact hne (Option.some.inj this)
  have r3 : aS a 73 s = 3 → False := fun y => by
    have := (q7.2 y).1
    rw [hV] at this
    exact hne (Option.some.inj this)
  have hvo' : ∀ g', gE g' = gE g → (∀ t v c k, gMV g' t v c k → gMV g t v c k ∨ (t = gTm a s ∧ v = s ∧ c = f ∧ k = (gE g).length)) → (∀ t v c k, gRV g t v c k → gRV g' t v c k) → gVo g' := by
    intro g' h1 h2 h3 t v c k y
    rcases h2 t v c k y with y | ⟨y1, y2, y3, y4⟩
    · obtain ⟨z1, z2⟩ := G.2.1 t v c k y
      exact ⟨by rw [h1]; exact z1, z2.imp id (fun ⟨k', w⟩ => ⟨k', h3 _ _ _ _ w⟩)⟩
    · refine ⟨by rw [h1]; exact Nat.le_of_eq y4, Or.inr ?_⟩
      rw [y1, y3]
      exact hvo.imp (fun k w => h3 _ _ _ _ w)
  by_cases hd : aS a 71 s = 0
  · obtain ⟨d1, d2, d3⟩ := q9.2.2.2 hd
    have hmax : (H s).1.take (max (H s).2.2.1 (H s).2.1) = (H s).1 := List.take_of_length_le (by omega)
    have hS2 : gRS z (gsync (gvote g (gTm a s) s f) s) := rS_gsync hg'
    have hx := gX_vs (s := s) (g := g) (t := gTm a s) (d := f)
    refine ⟨gsync (gvote g (gTm a s) s f) s, ?_, (gE g).length, Or.inr ⟨rfl, rfl, rfl, rfl⟩⟩
    refine GI_s (s := s) ?_
    refine GI_act G hS2 hx (Pa_On (k := 0) (P := sL s) Pa.nil) (Nat.le_refl _) G.2.2.1 G.2.2.2.1 rfl (hvo' _ rfl (fun _ _ _ _ y => y) (fun _ _ _ _ y => Or.inl y)) (fun _ => ?_) (fun dn => ?_) (fun _ l hl => ?_) (fun y hy => Or.inl ⟨y, hy, rfl⟩) (gPh_f W)
    · refine ⟨q1, q2, q3, q4, q5, ⟨by rw [hV]; exact hH, fun _ => ⟨fun t c k h => Or.inr ⟨rfl, h⟩, fun t j h => Or.inr ⟨rfl, h⟩⟩⟩, ⟨fun y => (r2 y).elim, fun y => (r3 y).elim⟩, q8, ⟨q9.1, ?_, q9.2.2.1, q9.2.2.2⟩⟩
      rw [hmax, d2, d3, hV]
      exact rH_sub (fun t c k y => hS2.2.2.2.2.2.2.2.2.1.1 _ _ _ _ y) (fun t i y => hS2.2.2.2.2.2.2.2.2.1.2.1 _ _ _ y) hH
    · rw [hup] at dn
      exact absurd dn (by decide)
    · exact gLt_x G.1 hx gKle_r G.2.2.2.1 (fun _ _ y => Or.inl y) (fun _ y => y) (fun _ _ y => y) (G.2.2.2.2.2.2.1 s hs l hl) (Nat.le_refl _)
  · have hx : gX s g (gvote g (gTm a s) s f) := gX_vote rfl
    refine ⟨gvote g (gTm a s) s f, ?_, (gE g).length, Or.inr ⟨rfl, rfl, rfl, rfl⟩⟩
    refine GI_s (s := s) ?_
    refine GI_act G hg' hx (Pa_On (k := 0) (P := sL s) Pa.nil) (Nat.le_refl _) G.2.2.1 G.2.2.2.1 rfl (hvo' _ rfl (fun _ _ _ _ y => y) (fun _ _ _ _ y => y)) (fun _ => ?_) (fun dn => ?_) (fun _ l hl => ?_) (fun y hy => Or.inl ⟨y, hy, rfl⟩) (gPh_f W)
    · exact ⟨q1, q2, q3, q4, q5, ⟨by rw [hV]; exact hH, fun y => absurd y hd⟩, ⟨fun y => (r2 y).elim, fun y => (r3 y).elim⟩, q8, q9⟩
    · rw [hup] at dn
      exact absurd dn (by decide)
    · exact gLt_x G.1 hx gKle_r G.2.2.2.1 (fun _ _ y => Or.inl y) (fun _ y => y) (fun _ _ y => y) (G.2.2.2.2.2.2.1 s hs l hl) (Nat.le_refl _)
theorem gN_54 {x : Int32} (h : ¬ x < 0) {f : Nat} (hf : f < 7) (e : x = Int32.ofNat f) : gN x = f := by rw [e]; exact gN_n (by omega)
/-- ASK -/
theorem GI_ask {l : AL} (G : GI z M a g H) (hs : s < 7) (hup : aS a 52 s = 1) (W : gPh a) (hM : M < 2147483648) (hl : gLt (aAk a) z M g (gRV g) (gRA g) l) (h4 : l.1 4 = 3) (h3 : l.1 3 = Int32.ofNat s) (hf : aInR (l.1 2) 0 6 = true) : ∃ g', GI z M (A_ask a s l) g' H := by
  obtain ⟨f, hf7, ef⟩ := toOK_n hf
  obtain ⟨q1, q2, q3, q4, q5, q6, q7, q8, q9⟩ := G.2.2.2.2.1 s hs hup
  obtain ⟨h0, hne, -⟩ := hl.2.2.2.2.2.2 (by rw [h4]; decide)
  have hfs : f ≠ s := fun y => hne (by rw [ef, h3, y])
  have hPM : (H s).1.length ≤ M := Nat.le_trans (rcoh_last q3.2.1).length_le (G.2.2.1 _)
  unfold A_ask
  dsimp only
  by_cases may : (decide (l.1 5 = aS a 53 s) && (decide (aS a 54 s < 0) || decide (aS a 54 s = l.1 2)) && aAsNew a s (l.1 7) (l.1 8)) = true
  · rw [if_pos may, may]
    rw [Bool.and_eq_true_iff, Bool.and_eq_true_iff, Bool.or_eq_true_iff, decide_eq_true_eq, decide_eq_true_eq, decide_eq_true_eq] at may
    obtain ⟨⟨m1, m2⟩, m3⟩ := may
    have e5 : gN (l.1 5) = gTm a s := by rw [m1]; rfl
    obtain ⟨Pc, kc, c1, c2, c3, kk, c4⟩ := hl.1 h4
    rw [e5, ef, gN_n (by omega)] at c1 c4
    have hPc : Pc.length ≤ M := Nat.le_trans (rcoh_last (G.1.2.2.2.2.2.2.2.2.2.2.2 _ _ _ _ c1).1).length_le (G.2.2.1 _)
    rw [c2, c3] at m3
    have hnew := gAsNew q1 (by omega) (by omega) (gCoh_ok G.2.2.2.1 q3.2.1) m3
    have e53 : ∀ x, aS (A_drawAlarm (aI x 73 s 0) s) 53 s = aS x 53 s := fun x => by rw [AFr_drawAlarm.1 53 (by decide) s, aS_If (by decide)]
    have e52 : ∀ x, aS (A_drawAlarm (aI x 73 s 0) s) 52 s = aS x 52 s := fun x => by rw [AFr_drawAlarm.1 52 (by decide) s, aS_If (by decide)]
    by_cases q : aS a 54 s = l.1 2
    · rw [if_pos q, ef]
      have hV : gV a s = some f := by
        unfold gV
        rw [q, ef, if_neg (i_nn (by omega)), gN_n (by omega)]
      have q61 := q6.1
      rw [hV] at q61
      obtain ⟨w1, w2⟩ := rS_gvote G.1 q61 (Or.inr rfl) q3.2.1 c1 hnew
      obtain ⟨g', G2, k2, hk2⟩ := GI_revote G hs hup W hfs w1 w2 ⟨kk, c4⟩ hV
      refine ⟨g', GI_vote (GI_follow G2 hs hup W) hs (by rw [e52]; exact hup) hf7 hfs (Or.inr rfl) (by rw [e53]; exact q3.1) (fun _ => by rw [e53]; exact q3.2.2.2) (fun _ _ => ⟨k2, ?_⟩)⟩
      rw [e53]
      exact hk2
    · rw [if_neg q, ef]
      have h54 := m2.resolve_right q
      have hV : gV a s = none := if_pos h54
      have q61 := q6.1
      rw [hV] at q61
      obtain ⟨w1, w2⟩ := rS_gvote G.1 q61 (Or.inl rfl) q3.2.1 c1 hnew
      have hr : ¬ aS a 73 s = 2 ∧ ¬ aS a 73 s = 3 := ⟨fun y => (by have := (q7.1 y).1; rw [hV] at this; cases this), fun y => (by have := (q7.2 y).1; rw [hV] at this; cases this)⟩
      have G2 := GI_voted G hs hup W hf7 hfs w1 w2 ⟨kk, c4⟩ h54 hr
      have W2 : gPh (A_writeSlot (aI a 54 s (Int32.ofNat f)) s) := gPh_P (Pa_0 (Pa_nn (P := sL s) (by decide)) (Pa_writeSlot (Pa_H (P := sL s) (Pa_nn (by decide)) (W s hs)))) W
      have u2 : aS (A_writeSlot (aI a 54 s (Int32.ofNat f)) s) 52 s = 1 := by rw [AFr_writeSlot.1 52 (by decide) s, aS_If (by decide)]; exact hup
      have e2 : aS (A_writeSlot (aI a 54 s (Int32.ofNat f)) s) 53 s = aS a 53 s := by rw [AFr_writeSlot.1 53 (by decide) s, aS_If (by decide)]
      refine ⟨_, GI_vote (GI_follow G2 hs u2 W2) hs (by rw [e52]; exact u2) hf7 hfs (Or.inr rfl) (by rw [e53, e2]; exact q3.1) (fun _ => by rw [e53, e2]; exact q3.2.2.2) (fun _ _ => ⟨(gE g).length, Or.inr ⟨?_, rfl, rfl, rfl⟩⟩)⟩
      rw [e53, e2]
      rfl
  · rw [if_neg may, ef]
    refine ⟨g, GI_vote G hs hup hf7 hfs (Or.inr rfl) q3.1 (fun _ => q3.2.2.2) (fun _ y => ?_)⟩
    exact absurd (by rw [ef]; exact y) may
theorem GI_preask {l : AL} (G : GI z M a g H) (hs : s < 7) (hup : aS a 52 s = 1) (hl : gLt (aAk a) z M g (gRV g) (gRA g) l) (h4 : l.1 4 = 1) (h3 : l.1 3 = Int32.ofNat s) (hf : aInR (l.1 2) 0 6 = true) : GI z M (A_preask a s l) g H := by
  obtain ⟨f, hf7, ef⟩ := toOK_n hf
  obtain ⟨h0, hne, -⟩ := hl.2.2.2.2.2.2 (by rw [h4]; decide)
  have hfs : f ≠ s := fun y => hne (by rw [ef, h3, y])
  unfold A_preask
  dsimp only
  rw [ef]
  refine GI_vote G hs hup hf7 hfs (Or.inl rfl) ?_ (fun y => ?_) (fun y => absurd y (by decide))
  · split
    · exact h0
    · exact (G.2.2.2.2.1 s hs hup).2.2.1.1
  · rw [if_neg (fun y2 => y ⟨rfl, y2⟩)]
    exact (G.2.2.2.2.1 s hs hup).2.2.1.2.2.2
end GV0
/-! standing for election -/
section GC0
variable {s z M : Nat} {a : AA} {g : GR} {H : Nat → GH}
theorem GI_askVoters {kd t : Int32} (hs : s < 7) (hM2 : M < 2147483648) (hk : kd = 1 ∨ kd = 3) (ht : 0 ≤ t) (htM : kd = 3 → gN t ≤ M) (hc : kd = 3 → (∃ kc, gC g (gN t) s = some ((H s).1, kc)) ∧ ∃ k, gMV g (gN t) s s k) (G : GI z M a g H) (hup : aS a 52 s = 1) : ∀ n, n ≤ 7 → GI z M (aAskVoters a s kd t n) g H := by
  intro n
  induction n with
  | zero => exact fun _ => G
  | succ n ih =>
    intro hn
    have G1 := ih (by omega)
    have fr : AFr [2, 21, 22] [0, 1] a (aAskVoters a s kd t n) := AFr_askVoters n
    have u1 : aS (aAskVoters a s kd t n) 52 s = 1 := by rw [fr.1 52 (by decide) s]; exact hup
    show GI z M (aAskOne (aAskVoters a s kd t n) s kd t n) g H
    generalize aAskVoters a s kd t n = x at G1 u1
    unfold aAskOne
    by_cases q : (!decide (n = s) && aIn (aVoters x s) n) = true
    · rw [if_pos q]
      have hns : n ≠ s := by
        rw [Bool.and_eq_true_iff, Bool.not_eq_true', decide_eq_false_iff_not] at q
        exact q.1
      refine GI_post G1 hs u1 rfl ?_
      obtain ⟨q1, q2, q3, -⟩ := G1.2.2.2.2.1 s hs u1
      have hPM : (H s).1.length ≤ M := Nat.le_trans (rcoh_last q3.2.1).length_le (G1.2.2.1 _)
      have hx : ¬ (Int32.ofNat s) = Int32.ofNat n := fun y => hns ((i_eqi (by omega) (by omega)).mp y).symm
      rcases hk with e | e
      · subst e
        exact gLt_o (by decide : ¬ (1 : Int32) = 3) (fun y => absurd y (by decide : ¬ (1 : Int32) = 4)) (by decide : ¬ (1 : Int32) = 5) (fun y => absurd y (by decide : ¬ (1 : Int32) = 6)) (by decide : ¬ (1 : Int32) = 7) (fun y => absurd y (by decide : ¬ (1 : Int32) = 8)) (fun _ => ⟨ht, hx, fun y => absurd rfl y⟩)
      · subst e
        obtain ⟨⟨kc, c1⟩, k, c2⟩ := hc rfl
        refine ⟨fun _ => ⟨(H s).1, kc, ?_, q1.1, gNum_lt q1 (by omega), k, ?_⟩, fun y => absurd y (by decide : ¬ (3 : Int32) = 4), fun y => absurd y (by decide : ¬ (3 : Int32) = 5), fun y => absurd y (by decide : ¬ (3 : Int32) = 6), fun y => absurd y (by decide : ¬ (3 : Int32) = 7), fun y => absurd y (by decide : ¬ (3 : Int32) = 8), fun _ => ⟨ht, hx, fun _ _ => htM rfl⟩⟩
        · show gC g (gN t) (gN (Int32.ofNat s)) = _
          rw [gN_n (by omega)]
          exact c1
        · show gMV g (gN t) (gN (Int32.ofNat s)) (gN (Int32.ofNat s)) k
          rw [gN_n (by omega)]
          exact c2
    · rw [if_neg q]
      exact G1
/-- standing, without the letters -/
def cpA (a : AA) (s : Nat) : AA := A_drawAlarm (aI (A_writeSlot (aI (aAdd (aI (aI a 73 s 2) 74 s (-1)) 53 s 1) 54 s (Int32.ofNat s)) s) 79 s 0) s
theorem campaign_e : A_campaign a s = aAskVoters (cpA a s) s 3 (aS (cpA a s) 53 s) 7 := rfl
theorem cpA_f : AFr [73, 74, 53, 54, 150, 43, 45, 46, 2, 31, 32, 71, 79, 29, 30] [6] a (cpA a s) := by
  unfold cpA aAdd
  exact AFr_w (AFr_t (AFr_t (AFr_t (AFr_t (AFr_t (AFr_t (AFr_t AFr_I AFr_I) AFr_I) AFr_I) AFr_writeSlot) AFr_I) AFr_r) AFr_drawAlarm) (by decide) (by decide)
theorem cpA_v : aS (cpA a s) 53 s = aS a 53 s + 1 ∧ aS (cpA a s) 54 s = Int32.ofNat s ∧ aS (cpA a s) 73 s = 2 ∧ aS (cpA a s) 79 s = 0 ∧ ¬ aS (cpA a s) 71 s = 0 := by
  unfold cpA aAdd
  refine ⟨?_, ?_, ?_, ?_, ?_⟩
  · rw [AFr_drawAlarm.1 53 (by decide) s, aS_If (by decide), AFr_writeSlot.1 53 (by decide) s, aS_If (by decide), evI_e, aS_If (by decide), aS_If (by decide)]
  · rw [AFr_drawAlarm.1 54 (by decide) s, aS_If (by decide), AFr_writeSlot.1 54 (by decide) s, evI_e]
  · rw [AFr_drawAlarm.1 73 (by decide) s, aS_If (by decide), AFr_writeSlot.1 73 (by decide) s, aS_If (by decide), aS_If (by decide), aS_If (by decide), evI_e]
  · rw [AFr_drawAlarm.1 79 (by decide) s, evI_e]
  · rw [AFr_drawAlarm.1 71 (by decide) s, aS_If (by decide)]
    exact slot_n
theorem cpA_P (h : Ph s (sL s) a) (hs : s < 7) : Pa s (sL s) 1 a (cpA a s) := by
  have h1 : Pa s (sL s) 0 a (aI (aAdd (aI (aI a 73 s 2) 74 s (-1)) 53 s 1) 54 s (Int32.ofNat s)) := Pa_n (by decide) (Pa_n (by decide) (Pa_n74 (by decide) (Pa_nn (by decide))))
  unfold cpA
  exact Pa_d (Pa_n (by decide) (Pa_0 h1 (Pa_writeSlot (Pa_H h1 h))))
theorem aIn_0 : ∀ p, p < 7 → aIn 0 p = false := by decide
theorem gX_cv {t : Nat} {P : List AE} (hn : ∀ k, ¬ gMV g t s s k) : gX s g (gvote (gcamp g t s P) t s s) := by
  refine ⟨rLe_refl, fun _ h => h, List.prefix_refl _, fun _ _ _ _ h => h, fun _ _ _ h => h, fun t' w d' k q => ⟨fun y => ?_, fun y => Or.inl y⟩, fun _ _ _ _ => Iff.rfl, fun t' d' k y => ?_, fun t' c q => ?_, fun _ h => Or.inl h, fun _ => Or.inl rfl, List.prefix_refl _, fun _ _ _ _ _ h => h, fun _ _ _ _ h => h⟩
  · rcases y with y | y
    · exact y
    · exact absurd y.2.1 q
  · rcases y with y | y
    · exact Or.inl y
    · exact Or.inr (Nat.le_of_eq y.2.2.2.symm)
  · show (if t' = t ∧ c = s then some (P, (gK g).length) else gC g t' c) = gC g t' c
    refine if_neg (fun y => ?_)
    rcases q with q | ⟨k, q⟩
    · exact q y.2
    · rw [y.1] at q
      exact hn k q
theorem GI_campaign (G : GI z M a g H) (hs : s < 7) (hup : aS a 52 s = 1) (W : gPh a) (hM2 : M + 1 < 2147483648) : ∃ g', GI z (M + 1) (A_campaign a s) g' H := by
  obtain ⟨q1, q2, q3, q4, q5, q6, q7, q8, q9⟩ := G.2.2.2.2.1 s hs hup
  obtain ⟨v53, v54, v73, v79, v71⟩ := cpA_v (a := a) (s := s)
  have k := cpA_f (a := a) (s := s)
  have fr : gFr (gFA.filter (fun f => !([53, 54, 71, 73, 79].contains f))) s a (cpA a s) := gFr_A k (by decide) (by decide)
  have hT0 : (gTm a s : Int) = (aS a 53 s).toInt := gN_i q3.1
  have hTM := q3.2.2.2
  have e53i : (aS (cpA a s) 53 s).toInt = (gTm a s : Int) + 1 := by
    rw [v53, i_succ (by omega), hT0]
  have eT : gTm (cpA a s) s = gTm a s + 1 := by
    show (aS (cpA a s) 53 s).toInt.toNat = _
    rw [e53i]
    omega
  have eV : gV (cpA a s) s = some s := by
    unfold gV
    rw [v54, if_neg (i_nn (by omega)), gN_n (by omega)]
  have h53 : 0 < aS (cpA a s) 53 s := by
    rw [Int32.lt_iff_toInt_lt, e53i, i_0]
    omega
  -- nobody voted for it in the new term
  have hno : ∀ v k, ¬ gMV g (gTm a s + 1) v s k := by
    intro v k y
    have key : ∀ k, ¬ gMV g (gTm a s + 1) s s k := fun k w => by
      have := (q6.1.1 _ _ _ w).1
      omega
    rcases (G.2.1 _ _ _ _ y).2 with e | ⟨k', e⟩
    · rw [e] at y
      exact key k y
    · exact key k' (G.1.2.2.2.2.2.2.2.2.1.1 _ _ _ _ e)
  have hnoe : ∀ e ∈ gE g, ¬ (e.1 = gTm a s + 1 ∧ e.2.1 = s) := by
    intro e he y
    obtain ⟨n, hn, -⟩ := r_mem he
    obtain ⟨a1, a2, a3, a4, a5, a6, a7, a8, a9⟩ := G.1.2.1 n e hn
    obtain ⟨p, -, hp⟩ := gMaj_ex a4
    obtain ⟨k, -, hk⟩ := a8 p hp
    rw [y.1, y.2] at hk
    exact hno p k (G.1.2.2.2.2.2.2.2.2.1.1 _ _ _ _ hk)
  have hju : rju gtm gmc z gsuc (gL g) (gK g) (H s).1 := rju_sub (rcoh_last q3.2.1) (G.1.2.2.2.2.2.2.2.2.2.2.1 _)
  have s1 := rS_gcamp G.1 hno hnoe q3.2.1 (fun x hx => by have := q3.2.2.1 x hx; omega) hju
  have hC : gC (gcamp g (gTm a s + 1) s (H s).1) (gTm a s + 1) s = some ((H s).1, (gK g).length) := if_pos ⟨rfl, rfl⟩
  obtain ⟨s2, h2⟩ := rS_gvote (g := gcamp g (gTm a s + 1) s (H s).1) s1 (V := none) (v := s) (t := gTm a s + 1) (c := s) (P := (H s).1) (rH_up (V' := none) (Nat.lt_succ_self _) q6.1) (Or.inl rfl) q3.2.1 hC (Or.inr ⟨rfl, Nat.le_refl _⟩)
  have hx : gX s g (gvote (gcamp g (gTm a s + 1) s (H s).1) (gTm a s + 1) s s) := gX_cv (fun k => hno s k)
  have hK : aAk (cpA a s) = aAk a := k.2.2.2.2.2.2.2.2.2.2.2.1 (by decide)
  have G2 : GI z (M + 1) (cpA a s) (gvote (gcamp g (gTm a s + 1) s (H s).1) (gTm a s + 1) s s) H := by
    refine GI_s (s := s) ?_
    refine GI_me G hs hup W k (by decide) (cpA_P (W s hs) hs) s2 hx ⟨fun _ _ _ h => Or.inl h, fun _ _ h => h⟩ (Nat.le_succ M) (fun t => Nat.le_succ_of_le (G.2.2.1 t)) G.2.2.2.1 (fun t v d j y => ?_) ?_
    · rcases y with y | ⟨y1, y2, y3, y4⟩
      · exact G.2.1 t v d j y
      · exact ⟨Nat.le_of_eq y4, Or.inl (y2.trans y3.symm)⟩
    · refine ⟨gNum_f fr (by decide) q1, gMem_f fr (by decide) q2, ⟨Int32.le_of_lt h53, q3.2.1, fun x hx => ?_, ?_⟩, gCom_f (g := g) fr (by decide) q4, gMch_f (g := g) fr (by decide) G.2.2.2.1 q4 q5, ⟨?_, fun y => absurd y v71⟩, ⟨fun _ => ?_, fun y => ?_⟩, gAsm_f (g := g) fr (by decide) G.2.2.2.1 q8, ⟨q9.1, q9.2.1, ?_, fun y => absurd y v71⟩⟩
      · rw [eT]
        exact Nat.le_succ_of_le (q3.2.2.1 x hx)
      · rw [eT]
        omega
      · rw [eT, eV]
        exact h2
      · refine ⟨eV, fun e he => ?_, ⟨(gK g).length, ?_, ?_⟩, fun p hp y => ?_, h53, (gE g).length, by rw [eT]; exact Or.inr ⟨rfl, rfl, rfl, rfl⟩⟩
        · rw [eT]
          exact hnoe e he
        · rw [eT]
          exact hC
        · rw [fr.1 75 (by decide) (by decide)]
          refine q4.2.2.2.2.2.1.imp id (fun ⟨k, k1, k2⟩ => ⟨k, ?_, k2⟩)
          show k ∈ (gK g).take (gK g).length
          rw [List.take_length]
          exact k1
        · rw [v79, aIn_0 p hp] at y
          cases y
      · rw [v73] at y
        exact absurd y (by decide)
      · rw [eT]
        refine Or.inl ?_
        rcases q9.2.2.1 with y | y
        · show _ < gTm a s + 1
          omega
        · show _ < gTm a s + 1
          omega
  rw [campaign_e]
  refine ⟨_, GI_askVoters hs hM2 (Or.inr rfl) (Int32.le_of_lt h53) (fun _ => ?_) (fun _ => ⟨⟨(gK g).length, ?_⟩, ⟨(gE g).length, ?_⟩⟩) G2 (by rw [k.1 52 (by decide) s]; exact hup) 7 (Nat.le_refl _)⟩
  · show gTm (cpA a s) s ≤ _
    rw [eT]
    omega
  · show gC _ (gTm (cpA a s) s) s = _
    rw [eT]
    exact hC
  · show gMV _ (gTm (cpA a s) s) s s _
    rw [eT]
    exact Or.inr ⟨rfl, rfl, rfl, rfl⟩
end GC0
