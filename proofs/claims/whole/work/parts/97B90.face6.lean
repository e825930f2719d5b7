/-! the face: messages -/
/-- earlier than -/
abbrev klt (t1 n1 t2 n2 : Int32) : Prop := t1 < t2 ∨ (t1 = t2 ∧ n1 < n2)
theorem way_rank {σ : RS} {K : List AK} {w : List AP} (h : RWay K σ w) (ev : w.Pairwise (fun x y => x.1 < y.1 ∨ (x.1 = y.1 ∧ x.2.1 < y.2.1))) : ∀ k, k < 128 → σ.1 17 k = 1 →
    ∃ m x, w[m]? = some x ∧ m < w.length ∧ σ.1 18 k = x.1 ∧ σ.1 19 k = x.2.1 ∧ RLt K σ k x.2.2 ∧ ((List.range 128).filter (fun j => decide (σ.1 17 j = 1 ∧ klt (σ.1 18 j) (σ.1 19 j) (σ.1 18 k) (σ.1 19 k)))).length = m ∧ ∀ j, j < 128 → σ.1 17 j = 1 → ((List.range 128).filter (fun i => decide (σ.1 17 i = 1 ∧ klt (σ.1 18 i) (σ.1 19 i) (σ.1 18 j) (σ.1 19 j)))).length = m → j = k := by
  obtain ⟨z1, z2, ws, z3, z4, z5, z6⟩ := h
  have h1 : ∀ p ∈ ws, σ.1 17 p.1 = 1 := fun p hp => by rw [z6 _ (z5 p hp).1, if_pos (List.mem_map.mpr ⟨p, hp, rfl⟩)]
  have h2 : ∀ j, j < 128 → σ.1 17 j = 1 → ∃ p ∈ ws, p.1 = j := by
    intro j hj e
    rw [z6 j hj] at e
    by_cases q : j ∈ ws.map Prod.fst
    · rw [List.mem_map] at q
      exact q
    · rw [if_neg q] at e
      exact absurd e (by decide)
  have evs : ws.Pairwise (fun p q => klt p.2.1 p.2.2.1 q.2.1 q.2.2.1) := by
    rw [← z3] at ev
    exact List.pairwise_map.mp ev
  -- the rank of a slot
  have rank : ∀ a p b, ws = a ++ p :: b → ((List.range 128).filter (fun j => decide (σ.1 17 j = 1 ∧ klt (σ.1 18 j) (σ.1 19 j) (σ.1 18 p.1) (σ.1 19 p.1)))).length = a.length := by
    intro a p b e
    have hp : p ∈ ws := by rw [e]; simp
    have nda : (a.map Prod.fst).Nodup := by
      rw [e, List.map_append] at z4
      exact (List.nodup_append.mp z4).1
    have pm : List.Perm ((List.range 128).filter (fun j => decide (σ.1 17 j = 1 ∧ klt (σ.1 18 j) (σ.1 19 j) (σ.1 18 p.1) (σ.1 19 p.1)))) (a.map Prod.fst) := by
      refine (List.perm_ext_iff_of_nodup (List.Pairwise.filter _ List.nodup_range) nda).mpr (fun j => ?_)
      rw [List.mem_filter, List.mem_range, List.mem_map]
      have kp := z5 p hp
      rw [e, List.pairwise_append] at evs
      constructor
      · rintro ⟨j1, j2⟩
        obtain ⟨j2, j3⟩ := of_decide_eq_true j2
        obtain ⟨q, hq, rfl⟩ := h2 j j1 j2
        have kq := z5 q hq
        rw [kq.2.1, kq.2.2.1, kp.2.1, kp.2.2.1] at j3
        rw [e, List.mem_append] at hq
        rcases hq with hq | hq
        · exact ⟨q, hq, rfl⟩
        · exfalso
          have : klt p.2.1 p.2.2.1 q.2.1 q.2.2.1 ∨ q = p := by
            rcases List.mem_cons.mp hq with z | z
            · exact Or.inr z
            · exact Or.inl ((List.pairwise_cons.mp evs.2.1).1 q z)
          unfold klt at this j3
          rcases this with this | this
          · simp only [Int32.lt_iff_toInt_lt, ← Int32.toInt_inj] at *
            omega
          · rw [this] at j3
            simp only [Int32.lt_iff_toInt_lt] at j3
            omega
      · rintro ⟨q, hq, rfl⟩
        have hq' : q ∈ ws := by rw [e]; exact List.mem_append_left _ hq
        have kq := z5 q hq'
        refine ⟨kq.1, decide_eq_true ⟨h1 q hq', ?_⟩⟩
        rw [kq.2.1, kq.2.2.1, kp.2.1, kp.2.2.1]
        exact evs.2.2 q hq p List.mem_cons_self
    rw [pm.length_eq, List.length_map]
  intro k hk e17
  obtain ⟨p, hp, rfl⟩ := h2 k hk e17
  obtain ⟨a, b, e⟩ := List.append_of_mem hp
  have kp := z5 p hp
  refine ⟨a.length, p.2, ?_, ?_, kp.2.1, kp.2.2.1, kp.2.2.2, rank a p b e, fun j hj ej er => ?_⟩
  · rw [← z3, e, List.map_append, List.getElem?_append_right (by rw [List.length_map]; exact Nat.le_refl _), List.length_map, Nat.sub_self]
    rfl
  · rw [← z3, e, List.length_map, List.length_append, List.length_cons]
    omega
  · obtain ⟨q, hq, rfl⟩ := h2 j hj ej
    obtain ⟨c, d, e'⟩ := List.append_of_mem hq
    rw [rank c q d e'] at er
    rw [e] at e'
    have this : (a ++ p :: b)[a.length]? = (c ++ q :: d)[a.length]? := congrArg (fun L => L[a.length]?) e'
    rw [List.getElem?_append_right (Nat.le_refl _), Nat.sub_self, List.getElem?_append_right (by omega), er, Nat.sub_self] at this
    exact (congrArg Prod.fst (Option.some.inj this)).symm
/-- the letter of a number on the way, and its slot -/
def KthQ (σ : RS) (a : AA) (k : Int32) (m : Nat) (p : Int32 × RS) : Prop := p.2 = σ ∧ ((p.1 = -1 ∧ (k < 0 ∨ (aWay a)[m]? = none)) ∨ ∃ j x, j < 128 ∧ p.1 = Int32.ofNat j ∧ ¬ k < 0 ∧ (aWay a)[m]? = some x ∧ σ.1 17 j = 1 ∧ σ.1 18 j = x.1 ∧ σ.1 19 j = x.2.1 ∧ RLt (aAk a) σ j x.2.2)
theorem M_kth {F : Nat} {σ : RS} {a : AA} {u : AU} {k : Int32} (hF : 200 ≤ F) (h : RM σ a u) (ev : (aWay a).Pairwise (fun x y => x.1 < y.1 ∨ (x.1 = y.1 ∧ x.2.1 < y.2.1))) :
    WP (m_kth F σ k) (KthQ σ a k k.toNatClampNeg) := by
  have hw := h.2.1
  have hr := way_rank hw ev
  obtain ⟨z1, z2, ws, z3, z4, z5, z6⟩ := hw
  have h01 : ∀ j, j < 128 → σ.1 17 j = 1 ∨ σ.1 17 j = 0 := by
    intro j hj
    rw [z6 j hj]
    by_cases q : j ∈ ws.map Prod.fst
    · rw [if_pos q]
      exact Or.inl rfl
    · rw [if_neg q]
      exact Or.inr rfl
  unfold m_kth m_kth_b0 m_kth_b12
  refine WP_if c0_lt (fun q => WP_some ⟨rfl, Or.inl ⟨rfl, Or.inl q⟩⟩) (fun q => ?_)
  have k0 : 0 ≤ k := Int32.not_lt.mp q
  obtain ⟨m, em⟩ : ∃ m, k = Int32.ofNat m ∧ k.toNatClampNeg = m := ⟨_, i_of k0, rfl⟩
  have hmb : k.toNatClampNeg < 2147483648 := by
    have h1 := i_nat k0
    have h2 := Int32.toInt_lt k
    omega
  rw [z1]
  refine WP_if (p := m < (aWay a).length) (by rw [c2_lt, em.1, Int32.lt_iff_toInt_lt, Int32.toInt_ofNat_of_lt (by omega), Int32.toInt_ofNat_of_lt (by omega)]; omega) (fun q2 => ?_) (fun q2 => ?_)
  · rw [em.2]
    obtain ⟨x0, hx0⟩ : ∃ x, (aWay a)[m]? = some x := ⟨_, List.getElem?_eq_getElem q2⟩
    -- the slot of the letter looked for
    have slot : ∃ s, s < 128 ∧ σ.1 17 s = 1 ∧ ((List.range 128).filter (fun j => decide (σ.1 17 j = 1 ∧ klt (σ.1 18 j) (σ.1 19 j) (σ.1 18 s) (σ.1 19 s)))).length = m := by
      have hm2 : m < ws.length := by rw [← List.length_map (f := Prod.snd), z3]; exact q2
      have hp : ws[m] ∈ ws := List.getElem_mem hm2
      have y := z5 _ hp
      have y17 : σ.1 17 (ws[m]).1 = 1 := by rw [z6 _ y.1, if_pos (List.mem_map.mpr ⟨_, hp, rfl⟩)]
      obtain ⟨m', x', r1, r2, r3, r4, r5, r6, r7⟩ := hr _ y.1 y17
      refine ⟨_, y.1, y17, ?_⟩
      rw [r6]
      -- the same key: the same place
      have e1 : (aWay a)[m]? = some (ws[m]).2 := by
        rw [← z3, List.getElem?_map, List.getElem?_eq_getElem hm2]
        rfl
      have f1 : x'.1 = (ws[m]).2.1 := r3.symm.trans y.2.1
      have f2 : x'.2.1 = (ws[m]).2.2.1 := r4.symm.trans y.2.2.1
      have g1 : (aWay a)[m'] = x' := by rw [List.getElem?_eq_getElem r2] at r1; exact Option.some.inj r1
      have g2 : (aWay a)[m] = (ws[m]).2 := by rw [List.getElem?_eq_getElem q2] at e1; exact Option.some.inj e1
      rcases Nat.lt_trichotomy m' m with z | z | z
      · exfalso
        have := List.pairwise_iff_getElem.mp ev m' m r2 q2 z
        rw [g1, g2, f1, f2] at this
        simp only [Int32.lt_iff_toInt_lt] at this
        omega
      · exact z
      · exfalso
        have := List.pairwise_iff_getElem.mp ev m m' q2 r2 z
        rw [g1, g2, f1, f2] at this
        simp only [Int32.lt_iff_toInt_lt] at this
        omega
    obtain ⟨s0, s1, s2, s3⟩ := slot
    have fin : ∀ j, j < 128 → σ.1 17 j = 1 → ((List.range 128).filter (fun i => decide (σ.1 17 i = 1 ∧ klt (σ.1 18 i) (σ.1 19 i) (σ.1 18 j) (σ.1 19 j)))).length = m → ∃ x, (aWay a)[m]? = some x ∧ σ.1 18 j = x.1 ∧ σ.1 19 j = x.2.1 ∧ RLt (aAk a) σ j x.2.2 := by
      intro j hj ej er
      obtain ⟨m', x', r1, r2, r3, r4, r5, r6, r7⟩ := hr j hj ej
      rw [r6] at er
      rw [er] at r1
      exact ⟨x', r1, r3, r4, r5⟩
    -- slots one after another
    have outer : ∀ n j, 129 ≤ j + n → j ≤ s0 → WP (m_kth_b16 F n σ k (Int32.ofNat j)) (KthQ σ a k m) := by
      intro n
      induction n with
      | zero => intro j h1 h2; omega
      | succ n ih =>
        intro j h1 h2
        unfold m_kth_b16
        refine WP_if (p := 128 ≤ j) (i_gei (q := 128) (by omega) (by omega)) (fun y => by omega) (fun y => ?_)
        -- the end for one slot
        have b117 : ∀ c : Nat, c ≤ 128 → (σ.1 17 j = 1 → c = ((List.range 128).filter (fun i => decide (σ.1 17 i = 1 ∧ klt (σ.1 18 i) (σ.1 19 i) (σ.1 18 j) (σ.1 19 j)))).length) → WP (m_kth_b117 F (m_kth_b16 F n) σ k (Int32.ofNat j) (Int32.ofNat c)) (KthQ σ a k m) := by
          intro c hc hcn
          unfold m_kth_b117 m_kth_b133
          rw [i_s]
          have nxt : (σ.1 17 j = 1 → c ≠ m) → j ≠ s0 := by
            intro hne e
            rw [e] at hcn hne
            exact hne s2 ((hcn s2).trans s3)
          refine WP_ld rfl 128 (by decide +kernel) (by omega) ?_
          refine WP_if c0_eq (fun y0 => ?_) (fun y0 => ?_)
          · have : j ≠ s0 := fun e => by
              rw [e, s2] at y0
              exact absurd y0 (by decide)
            exact ih (j + 1) (by omega) (by omega)
          · have e1 := (h01 j (by omega)).resolve_right y0
            refine WP_if (p := c ≠ m) (by rw [c2_ne, em.1, i_eqi (by omega) (by omega)]) (fun y1 => ?_) (fun y1 => ?_)
            · have := nxt (fun _ => y1)
              exact ih (j + 1) (by omega) (by omega)
            · have y1 := Classical.not_not.mp y1
              obtain ⟨x, f1, f2, f3, f4⟩ := fin j (by omega) e1 ((hcn e1).symm.trans y1)
              exact WP_some ⟨rfl, Or.inr ⟨j, x, by omega, rfl, q, f1, e1, f2, f3, f4⟩⟩
        by_cases j17 : σ.1 17 j = 1
        · have inner : ∀ n' i, 129 ≤ i + n' → i ≤ 128 → WP (m_kth_b28 F (m_kth_b16 F n) n' σ k (Int32.ofNat j) (Int32.ofNat ((List.range i).filter (fun i => decide (σ.1 17 i = 1 ∧ klt (σ.1 18 i) (σ.1 19 i) (σ.1 18 j) (σ.1 19 j)))).length) (Int32.ofNat i)) (KthQ σ a k m) := by
            intro n'
            induction n' with
            | zero => intro i h1 h2; omega
            | succ n' ih' =>
              intro i h1' h2'
              unfold m_kth_b28
              have lenle : ((List.range i).filter (fun i => decide (σ.1 17 i = 1 ∧ klt (σ.1 18 i) (σ.1 19 i) (σ.1 18 j) (σ.1 19 j)))).length ≤ 128 := by
                have := List.length_filter_le (fun i => decide (σ.1 17 i = 1 ∧ klt (σ.1 18 i) (σ.1 19 i) (σ.1 18 j) (σ.1 19 j))) (List.range i)
                rw [List.length_range] at this
                omega
              refine WP_if (p := 128 ≤ i) (i_gei (q := 128) (by omega) (by omega)) (fun y2 => ?_) (fun y2 => ?_)
              · have : i = 128 := by omega
                subst this
                exact b117 _ lenle (fun _ => rfl)
              · have es : ((List.range (i + 1)).filter (fun i => decide (σ.1 17 i = 1 ∧ klt (σ.1 18 i) (σ.1 19 i) (σ.1 18 j) (σ.1 19 j)))).length = ((List.range i).filter (fun i => decide (σ.1 17 i = 1 ∧ klt (σ.1 18 i) (σ.1 19 i) (σ.1 18 j) (σ.1 19 j)))).length + if σ.1 17 i = 1 ∧ klt (σ.1 18 i) (σ.1 19 i) (σ.1 18 j) (σ.1 19 j) then 1 else 0 := by
                  rw [List.range_succ, List.filter_append, List.length_append]
                  by_cases z : σ.1 17 i = 1 ∧ klt (σ.1 18 i) (σ.1 19 i) (σ.1 18 j) (σ.1 19 j)
                  · rw [if_pos z, List.filter_cons, if_pos (decide_eq_true z)]
                    rfl
                  · rw [if_neg z, List.filter_cons, if_neg (by rw [decide_eq_false z]; decide)]
                    rfl
                have nx := ih' (i + 1) (by omega) (by omega)
                rw [es] at nx
                have less : (σ.1 17 i = 1 ∧ klt (σ.1 18 i) (σ.1 19 i) (σ.1 18 j) (σ.1 19 j)) → WP (m_kth_b104 F (m_kth_b16 F n) (m_kth_b28 F (m_kth_b16 F n) n') σ (Int32.ofNat ((List.range i).filter (fun i => decide (σ.1 17 i = 1 ∧ klt (σ.1 18 i) (σ.1 19 i) (σ.1 18 j) (σ.1 19 j)))).length) k (Int32.ofNat j) (Int32.ofNat i)) (KthQ σ a k m) := by
                  intro z
                  rw [if_pos z] at nx
                  unfold m_kth_b104 m_kth_b109
                  rw [i_s, i_s]
                  exact nx
                have more : ¬ (σ.1 17 i = 1 ∧ klt (σ.1 18 i) (σ.1 19 i) (σ.1 18 j) (σ.1 19 j)) → WP (m_kth_b108 F (m_kth_b16 F n) (m_kth_b28 F (m_kth_b16 F n) n') σ (Int32.ofNat ((List.range i).filter (fun i => decide (σ.1 17 i = 1 ∧ klt (σ.1 18 i) (σ.1 19 i) (σ.1 18 j) (σ.1 19 j)))).length) k (Int32.ofNat j) (Int32.ofNat i)) (KthQ σ a k m) := by
                  intro z
                  rw [if_neg z] at nx
                  unfold m_kth_b108 m_kth_b109
                  rw [i_s, Int32.add_zero]
                  exact nx
                refine WP_ld rfl 128 (by decide +kernel) (by omega) ?_
                rw [j17]
                refine WP_if c0_eq (fun y3 => absurd y3 (by decide)) (fun _ => ?_)
                refine WP_ld rfl 128 (by decide +kernel) (by omega) ?_
                refine WP_if c0_eq (fun y3 => ?_) (fun y3 => ?_)
                · exact more (fun z => by rw [z.1] at y3; exact absurd y3 (by decide))
                · have i17 := (h01 i (by omega)).resolve_right y3
                  refine WP_ld rfl 128 (by decide +kernel) (by omega) ?_
                  refine WP_ld rfl 128 (by decide +kernel) (by omega) ?_
                  refine WP_if c2_lt (fun y4 => less ⟨i17, Or.inl y4⟩) (fun y4 => ?_)
                  refine WP_ld rfl 128 (by decide +kernel) (by omega) ?_
                  refine WP_ld rfl 128 (by decide +kernel) (by omega) ?_
                  refine WP_if c2_ne (fun y5 => more (fun z => z.2.elim y4 (fun x => y5 x.1))) (fun y5 => ?_)
                  refine WP_ld rfl 128 (by decide +kernel) (by omega) ?_
                  refine WP_ld rfl 128 (by decide +kernel) (by omega) ?_
                  refine WP_if c2_ge (fun y6 => more (fun z => z.2.elim y4 (fun x => Int32.not_lt.mpr y6 x.2))) (fun y6 => less ⟨i17, Or.inr ⟨Classical.not_not.mp y5, Int32.not_le.mp y6⟩⟩)
          exact inner F 0 (by omega) (Nat.zero_le _)
        · have j0 := (h01 j (by omega)).resolve_left j17
          obtain ⟨G, eG⟩ : ∃ G, F = G + 1 := ⟨F - 1, by omega⟩
          have go : ∀ G', F = G' + 1 → WP (m_kth_b28 F (m_kth_b16 F n) (G' + 1) σ k (Int32.ofNat j) 0 0) (KthQ σ a k m) := by
            intro G' _
            unfold m_kth_b28
            refine WP_if (p := 128 ≤ 0) (i_gei (p := 0) (q := 128) (by omega) (by omega)) (fun y2 => by omega) (fun _ => ?_)
            refine WP_ld rfl 128 (by decide +kernel) (by omega) ?_
            rw [j0]
            refine WP_if c0_eq (fun _ => ?_) (fun y3 => absurd rfl y3)
            exact b117 0 (by omega) (fun z => absurd z j17)
          have := go G eG
          rw [← eG] at this
          exact this
    exact outer F 0 (by omega) (Nat.zero_le _)
  · refine WP_some ⟨rfl, Or.inl ⟨rfl, Or.inr ?_⟩⟩
    rw [em.2]
    exact List.getElem?_eq_none (by omega)
