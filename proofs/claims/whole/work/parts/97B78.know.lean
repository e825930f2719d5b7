/-! another row of askings -/
def aK0 : AK := (fun _ => 0, [])
def kAgr (K K' : List AK) (j : Nat) : Prop := (K'.getD j aK0).1 1 = (K.getD j aK0).1 1 ∧ (K'.getD j aK0).1 7 = (K.getD j aK0).1 7 ∧ (K'.getD j aK0).1 8 = (K.getD j aK0).1 8 ∧ (K'.getD j aK0).2 = (K.getD j aK0).2
/-- askings are told of or added -/
def KX (P : Nat → Prop) (K K' : List AK) : Prop := K.length ≤ K'.length ∧ (∀ j, j < K.length → P j) ∧ ∀ j, P j → kAgr K K' j
def lOK (P : Nat → Prop) (l : AL) : Prop := l.1 4 = 10 → ¬ l.1 6 = 0 → P (l.1 16).toNatClampNeg
theorem wfE_K {P : Nat → Prop} {K K' : List AK} {e : AE} (h : KX P K K') (w : wfE K e) : eCon K' e = eCon K e ∧ wfE K' e := by
  have hc : eCon K' e = eCon K e := by
    unfold eCon
    by_cases q1 : e.2.1 = 1
    · rw [if_pos q1, if_pos q1]
    · rw [if_neg q1, if_neg q1]
      by_cases q2 : e.2.1 = 2
      · rw [if_pos q2, if_pos q2]
        by_cases q3 : e.2.2.2.2.2 = -1
        · rw [if_pos q3, if_pos q3]
        · rw [if_neg q3, if_neg q3]
          rcases w.2.2 q2 with z | ⟨z1, z2, z3⟩
          · exact absurd z q3
          · obtain ⟨a1, a2, a3, a4⟩ := h.2.2 _ (h.2.1 _ z2)
            unfold aK0 at a1 a2 a3 a4
            dsimp only
            rw [a1, a2, a3, a4]
      · rw [if_neg q2, if_neg q2]
  refine ⟨hc, ?_⟩
  obtain ⟨w1, w2, w3⟩ := w
  refine ⟨by rw [hc]; exact w1, w2, fun z => (w3 z).imp id ?_⟩
  rintro ⟨z1, z2, z3⟩
  refine ⟨z1, Nat.lt_of_lt_of_le z2 h.1, ?_⟩
  obtain ⟨a1, _⟩ := h.2.2 _ (h.2.1 _ z2)
  unfold aK0 at a1
  rw [a1]
  exact z3
theorem lTd_K {P : Nat → Prop} {K K' : List AK} {l : AL} (h : KX P K K') (hl : lOK P l) : (∀ j, lTd K' l j = lTd K l j) ∧ lBs K' l = lBs K l := by
  by_cases q : l.1 4 = 10
  · by_cases q6 : l.1 6 = 0
    · constructor
      · intro j
        unfold lTd
        simp only [if_pos q6]
      · unfold lBs
        simp only [if_pos q6]
    · obtain ⟨a1, a2, a3, a4⟩ := h.2.2 _ (hl q q6)
      unfold aK0 at a1 a2 a3 a4
      constructor
      · intro j
        unfold lTd
        dsimp only
        rw [a1, a2, a3, a4]
      · unfold lBs
        rw [a4]
  · constructor
    · intro j
      unfold lTd
      dsimp only
      rw [if_neg q, if_neg q]
    · unfold lBs
      rw [if_neg q, if_neg q]
theorem RLt_K {P : Nat → Prop} {K K' : List AK} {σ : RS} {k : Nat} {l : AL} (h : KX P K K') (hl : lOK P l) (r : RLt K σ k l) : RLt K' σ k l := by
  obtain ⟨t1, t2⟩ := lTd_K h hl
  obtain ⟨r1, r2, r3, r4, r5, r6, r7, ⟨U, u1, u2, u3, u4⟩, r9, r10, r11⟩ := r
  have ec : ∀ i, i < l.2.1.length → eCon K' (l.2.1.getD i (0, 0, 0, 0, 0, 0)) = eCon K (l.2.1.getD i (0, 0, 0, 0, 0, 0)) := fun i hi => (wfE_K h (r11 i hi).1).1
  refine ⟨r1, r2, r3, r4, r5, r6, r7, ⟨U, u1, u2, by rw [t2]; exact u3, fun i hi => by rw [ec i hi]; exact u4 i hi⟩, fun j v hv => r9 j v (by rw [← t1 j]; exact hv), fun i v hv => r10 i v (by rw [← t2]; exact hv), fun i hi => ?_⟩
  obtain ⟨z1, z2, z3⟩ := r11 i hi
  dsimp only
  rw [ec i hi]
  exact ⟨(wfE_K h z1).2, z2, z3⟩
theorem RWay_K {P : Nat → Prop} {K K' : List AK} {σ : RS} {w : List AP} (h : KX P K K') (hl : ∀ p ∈ w, lOK P p.2.2) (r : RWay K σ w) : RWay K' σ w := by
  obtain ⟨r1, r2, ws, r3, r4, r5, r6⟩ := r
  refine ⟨r1, r2, ws, r3, r4, fun p hp => ?_, r6⟩
  obtain ⟨z1, z2, z3, z4⟩ := r5 p hp
  refine ⟨z1, z2, z3, RLt_K h (hl p.2 ?_) z4⟩
  rw [← r3]
  exact List.mem_map.mpr ⟨p, hp, rfl⟩
theorem RWt_K {P : Nat → Prop} {K K' : List AK} {σ : RS} {s : Nat} {w : List AL} (h : KX P K K') (hl : ∀ l ∈ w, lOK P l) (r : RWt K σ s w) : RWt K' σ s w := by
  obtain ⟨r1, r2, r3⟩ := r
  refine ⟨r1, r2, fun i hi => RLt_K h (hl _ ?_) (r3 i hi)⟩
  rw [List.getD_eq_getElem?_getD, List.getElem?_eq_getElem hi]
  exact List.getElem_mem _
theorem RLog_K {P : Nat → Prop} {K K' : List AK} {σ : RS} {s : Nat} {b : Int32} {g : List AE} (h : KX P K K') (r : RLog K σ s b g) : RLog K' σ s b g := by
  intro i hi
  obtain ⟨z1, z2, z3, z4, z5, z6⟩ := r i hi
  obtain ⟨e1, e2⟩ := wfE_K h z4
  dsimp only
  rw [e1]
  exact ⟨z1, z2, z3, e2, z5, z6⟩
theorem eFrame_K {K K' : List AK} {e : AE} (h : eCon K' e = eCon K e) : eFrame K' e = eFrame K e := by
  unfold eFrame
  rw [h]
theorem eFrames_K {P : Nat → Prop} {K K' : List AK} (h : KX P K K') : ∀ L : List AE, (∀ e ∈ L, wfE K e) → L.flatMap (eFrame K') = L.flatMap (eFrame K) := by
  intro L
  induction L with
  | nil =>
    intro _
    rw [List.flatMap_nil, List.flatMap_nil]
  | cons x r ih =>
    intro hw
    rw [List.flatMap_cons, List.flatMap_cons, ih (fun e he => hw e (List.mem_cons_of_mem _ he)), eFrame_K (wfE_K h (hw x List.mem_cons_self)).1]
def fByZ (f : Nat) (F : AF) (z : List (Option Int32)) : List (Option Int32) := if f < 2 then [] else if f < 4 then List.replicate 20 none ++ (aEnc F.2.2).map some else (a4 16 ++ a4 0 ++ a4 (F.1 2) ++ a4 (F.1 3) ++ a4 0 ++ a4 0).map some ++ z
theorem fBy_e {K : List AK} {f : Nat} {F : AF} : fBy K f F = fByZ f F (F.2.1.flatMap (eFrame K)) := by
  delta fBy fByZ
  rfl
theorem fBy_K {P : Nat → Prop} {K K' : List AK} {f : Nat} {F : AF} (h : KX P K K') (w : ∀ e ∈ F.2.1, wfE K e) : fBy K' f F = fBy K f F := by
  rw [fBy_e, fBy_e, eFrames_K h _ w]
theorem RFl_K {P : Nat → Prop} {K K' : List AK} {σ : RS} {k f : Nat} {F : AF} (h : KX P K K') (r : RFl K σ k f F) : RFl K' σ k f F := by
  obtain ⟨r1, r2, r3, r4, r5, r6⟩ := r
  have ef := fBy_K (f := f) h (fun e he => (r5 e he).1)
  refine ⟨r1, r2, r3, by rw [ef]; exact r4, fun e he => ?_, r6⟩
  obtain ⟨e1, e2⟩ := wfE_K h (r5 e he).1
  exact ⟨e2, by rw [e1]; exact (r5 e he).2⟩
theorem RDk_K {P : Nat → Prop} {K K' : List AK} {σ : RS} {s : Nat} {fc fk : Nat → AF} (h : KX P K K') (r : RDk K σ s fc fk) : RDk K' σ s fc fk := fun f hf => ⟨RFl_K h (r f hf).1, RFl_K h (r f hf).2.1, (r f hf).2.2⟩
theorem RRq1_K {P : Nat → Prop} {K K' : List AK} {σ : RS} {w : Nat} {q : AQ} (h : KX P K K') (r : RRq1 K σ w q) : RRq1 K' σ w q := by
  obtain ⟨r1, r2, r3, r4, r5, r6, r7, r8, r9⟩ := r
  refine ⟨r1, r2, r3, r4, r5, r6, r7, r8, fun y => ?_⟩
  obtain ⟨z1, z2⟩ := r9 y
  obtain ⟨a1, a2, a3, a4⟩ := h.2.2 _ (h.2.1 _ z1)
  unfold aK0 at a1 a2 a3 a4
  refine ⟨Nat.lt_of_lt_of_le z1 h.1, ?_⟩
  dsimp only at z2 ⊢
  rw [a1, a2, a4]
  exact z2
theorem RRq_K {P : Nat → Prop} {K K' : List AK} {σ : RS} {s d : Nat} {n : Int32} {rq : List AQ} (h : KX P K K') (r : RRq K σ s d n rq) : RRq K' σ s d n rq := by
  obtain ⟨b, e1, e1', e2, e3, e4, e5⟩ := r
  exact ⟨b, e1, e1', e2, e3, fun q hq => ⟨(e4 q hq).1, (e4 q hq).2.1, (e4 q hq).2.2.1, RRq1_K h (e4 q hq).2.2.2⟩, e5⟩
theorem RWn_K {P : Nat → Prop} {K K' : List AK} {σ : RS} {b j : Int32} {c : Nat} (h : KX P K K') (r : RWn σ K b j c) : RWn σ K' b j c := by
  refine r.imp id ?_
  rintro ⟨z1, z2, z3⟩
  obtain ⟨a1, a2, a3, a4⟩ := h.2.2 _ (h.2.1 _ z2)
  unfold aK0 at a1 a2 a3 a4
  refine ⟨z1, Nat.lt_of_lt_of_le z2 h.1, ?_⟩
  dsimp only at z3 ⊢
  rw [a1, a2, a3, a4]
  exact z3
