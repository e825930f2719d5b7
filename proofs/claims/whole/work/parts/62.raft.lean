/-! the agreement: nobody is elected in a term in which another one was, and who is elected has all commits of lower terms -/
section RAFT3
variable {E : Type} {tm : E → Nat} {mc : E → Option Nat} {c0 : Nat} {suc : Nat → Nat → Prop} {quo : Nat → (Nat → Bool) → Prop}
theorem rS_same (hI : ∀ C D D' Q Q', (D = C ∨ suc C D) → (D' = C ∨ suc C D') → quo D Q → quo D' Q' → ∃ v, Q v = true ∧ Q' v = true) {g : RG E} (hg : rS tm mc c0 suc quo g) {t s kc : Nat} {P : List E} {Qe : Nat → Bool}
    (hc : gC g t s = some (P, kc)) (hq : quo (rcf mc c0 P) Qe) (hv : ∀ v, Qe v = true → ∃ k, k ≤ (gE g).length ∧ gRV g t v s k) (hp : ∀ z ∈ gK g, z.1 < t → rcp (gL g) z <+: P) {e : RE E} (he : e ∈ gE g) (het : e.1 = t) (hsub : ∀ z ∈ (gK g).take kc, ∀ r, r <+: P → r <+: rcp (gL g) z → r <+: e.2.2.1) : e.2.1 = s := by
  obtain ⟨s1, s3, s4, s5, s6, s7, s8, s9, s10, s11, s12, s14⟩ := hg
  obtain ⟨n, hn, -⟩ := r_mem he
  obtain ⟨a1, a2, a3, a4, a5, a6, a7, a8, a9⟩ := s3 n e hn
  obtain ⟨m, m1, m2, m3⟩ := r_max (fun m => m = 0 ∨ (P.take m <+: e.2.2.1)) (Or.inl rfl) P.length
  have hmax : ∀ r, r <+: P → r <+: e.2.2.1 → r.length ≤ (P.take m).length := by
    intro r hr hr2
    have e1 : r = P.take r.length := List.prefix_iff_eq_take.mp hr
    rw [List.length_take, Nat.min_eq_left m1]
    exact m3 _ hr.length_le (Or.inr (by rw [← e1]; exact hr2))
  have hme : P.take m <+: e.2.2.1 := by
    rcases m2 with rfl | m2
    · simp
    · exact m2
  have hD := r_close (s14 t s P kc hc).2.2.2 (List.take_prefix m P) (fun z hz r _ hr hr2 => hmax r hr (hsub z hz r hr hr2))
  have hE := r_close a6 hme (fun z hz r _ hr hr2 => by
    obtain ⟨i, hi, hz2⟩ := r_take hz
    have h1 := (s11 i z e hz2 he (Or.inl hi)).1
    exact hmax r (hr2.trans (hp z (r_of hz2) (by omega))) hr)
  obtain ⟨v, v1, v2⟩ := hI _ _ _ _ _ hD hE hq a4
  obtain ⟨k1, -, w1⟩ := hv v v1
  obtain ⟨k2, -, w2⟩ := a8 v v2
  rw [het] at w2
  exact s9 t v _ _ _ _ (s10.1 _ _ _ _ w2) (s10.1 _ _ _ _ w1)
theorem rS_elect (hI : ∀ C D D' Q Q', (D = C ∨ suc C D) → (D' = C ∨ suc C D') → quo D Q → quo D' Q' → ∃ v, Q v = true ∧ Q' v = true) {g : RG E} (hg : rS tm mc c0 suc quo g) {t s kc : Nat} {P : List E} {Qe : Nat → Bool}
    (hc : gC g t s = some (P, kc)) (hq : quo (rcf mc c0 P) Qe) (hv : ∀ v, Qe v = true → ∃ k, k ≤ (gE g).length ∧ gRV g t v s k) (hne : ∀ e ∈ gE g, ¬ (e.1 = t ∧ e.2.1 = s)) :
    (∀ e ∈ gE g, e.1 ≠ t) ∧ (∀ z ∈ (gK g).take kc, z.1 < t) ∧ ∀ z ∈ gK g, z.1 < t → rcp (gL g) z <+: P := by
  have hg' := hg
  obtain ⟨s1, s3, s4, s5, s6, s7, s8, s9, s10, s11, s12, s14⟩ := hg'
  obtain ⟨p1, p2, p3, p4⟩ := s14 t s P kc hc
  have ph1 : ∀ (n : Nat) (k : RK), (gK g)[n]? = some k → k.1 < t → rcp (gL g) k <+: P := by
    intro n
    induction n using Nat.strongRecOn with
    | _ n ih =>
      intro k hk hlt
      obtain ⟨b1, b2, b3, b4, b5, b6, b7⟩ := s1 n k hk
      rcases r_core (E := E) (tm := tm) (mc := mc) (c0 := c0) hI (LL := gL g) (k := k) (P := P) (Qe := Qe) (kk := (gK g).take n) (ke := (gK g).take kc) (fun z => z ∈ gK g ∧ (z ∈ (gK g).take kc ∨ z.1 ≤ k.1))
        b1 b5 b7 (rS_le s3 s5) hq p4 (fun z hz => ⟨List.mem_of_mem_take hz, Or.inl hz⟩) (fun z hz hle => by
          obtain ⟨m, hm, e1⟩ := r_take hz
          exact ⟨⟨r_of e1, Or.inr hle⟩, ih m hm z e1 (by omega)⟩) (fun z hz => rS_chain hg (r_of hk) hz.1) with h | ⟨v, v1, v2⟩
      · exact h
      · obtain ⟨kn, hkn, hrv⟩ := hv v v2
        exact rS_voter hg b3 (b6 v v1) hlt hrv hc (fun e2 he2 hlt2 => (s11 n k e2 hk (List.mem_of_mem_take he2) (Or.inr hlt2)).2)
  have ph1' : ∀ z ∈ gK g, z.1 < t → rcp (gL g) z <+: P := fun z hz h => by
    obtain ⟨n, hn, -⟩ := r_mem hz
    exact ph1 n z hn h
  -- a path with an entry of term t is not P
  have hno : ∀ x ∈ P, tm x < t := p2
  have hin : ∀ (k : RK), rown tm (gL g) k.1 k.2.1 → rcp (gL g) k <+: P → k.1 < t := by
    intro k hk hp
    obtain ⟨q1, x, q2, q3⟩ := hk
    rw [← q3]
    refine hno x (hp.subset ?_)
    unfold rcp
    have : ((gL g k.1).take k.2.1)[k.2.1 - 1]? = some x := by rw [List.getElem?_take_of_lt (by omega)]; exact q2
    exact r_of this
  have ph2 : ∀ (n : Nat) (k : RK), (gK g)[n]? = some k → n < kc → k.1 < t := by
    intro n
    induction n using Nat.strongRecOn with
    | _ n ih =>
      intro k hk hlt
      obtain ⟨b1, b2, b3, b4, b5, b6, b7⟩ := s1 n k hk
      rcases r_core (E := E) (tm := tm) (mc := mc) (c0 := c0) hI (LL := gL g) (k := k) (P := P) (Qe := Qe) (kk := (gK g).take n) (ke := (gK g).take kc) (fun z => z ∈ gK g)
        b1 b5 b7 (rS_le s3 s5) hq p4 (fun z hz => List.mem_of_mem_take hz) (fun z hz hle => by
          obtain ⟨m, hm, e1⟩ := r_take hz
          exact ⟨r_of e1, ph1 m z e1 (ih m hm z e1 (by omega))⟩) (fun z hz => rS_chain hg (r_of hk) hz) with h | ⟨v, v1, v2⟩
      · exact hin k b3 h
      · obtain ⟨kn, hkn, hrv⟩ := hv v v2
        rcases Nat.lt_trichotomy k.1 t with h | h | h
        · exact h
        · exfalso
          obtain ⟨e, he, het⟩ := b4
          obtain ⟨i, hi, -⟩ := r_mem he
          obtain ⟨a1, a2, a3, -⟩ := s3 i e hi
          rw [het] at a1 a3
          -- E is the beginning of the commit k
          have hEk : e.2.2.1 <+: rcp (gL g) k := by
            refine List.prefix_of_prefix_length_le a1 (List.take_prefix _ _) ?_
            obtain ⟨q1, x, q2, q3⟩ := b3
            rcases Nat.lt_or_ge k.2.1 e.2.2.1.length with q | q
            · exfalso
              obtain ⟨w, hw⟩ := a1
              rw [← hw, List.getElem?_append_left (by omega)] at q2
              have := a2 x (r_of q2)
              omega
            · unfold rcp
              rw [List.length_take]
              have : k.2.1 ≤ (gL g k.1).length := by omega
              omega
          have hrt : ∀ r, r <+: P → r <+: gL g t → r <+: e.2.2.1 := by
            intro r hr hr2
            rw [h] at a1 a3
            rcases rcmp_of hr2 a1 with q | q
            · exact q
            · obtain ⟨w, rfl⟩ := q
              cases w with
              | nil => rw [List.append_nil]; exact List.prefix_refl _
              | cons y w =>
                exfalso
                have h1 := hno y (hr.subset (by simp))
                obtain ⟨w2, hw2⟩ := hr2
                have h2 := a3 y (by rw [← hw2, List.append_assoc, List.drop_left]; simp)
                omega
          have hes := rS_same hI hg hc hq hv ph1' he (by omega) (fun z hz r hr hr2 => by
            obtain ⟨m, hm, e1⟩ := r_take hz
            rcases Nat.lt_trichotomy z.1 t with q | q | q
            · exact hrt r hr ((hr2.trans ((s11 m z e e1 he (Or.inr (by omega))).2.trans a1)).trans (by rw [h]; exact List.prefix_refl _))
            · exact hrt r hr (by
                have := hr2.trans (List.take_prefix z.2.1 (gL g z.1))
                rw [q] at this
                exact this)
            · obtain ⟨-, -, -, ⟨e3, he3, hez⟩, -⟩ := s1 m z e1
              obtain ⟨i3, hi3, -⟩ := r_mem he3
              have g1 := (s11 n k e3 hk he3 (Or.inr (by omega))).2.trans (s3 i3 e3 hi3).1
              rw [hez] at g1
              rcases rcmp_of (hr2.trans (List.take_prefix z.2.1 (gL g z.1))) g1 with q2 | q2
              · exact hrt r hr (by
                  have := q2.trans (List.take_prefix k.2.1 (gL g k.1))
                  rw [h] at this
                  exact this)
              · exfalso
                have := hin k b3 (q2.trans hr)
                omega)
          exact hne e he ⟨by omega, hes⟩
        · exfalso
          exact s8 t v s kn P kc (s10.1 _ _ _ _ hrv) hc k (r_take' hk hlt) h v1
  refine ⟨fun e he het => ?_, fun z hz => ?_, ph1'⟩
  · obtain ⟨i, hi, -⟩ := r_mem he
    refine hne e he ⟨het, rS_same hI hg hc hq hv ph1' he het (fun z hz r hr hr2 => ?_)⟩
    obtain ⟨m, hm, e1⟩ := r_take hz
    exact hr2.trans (s11 m z e e1 he (Or.inr (by have := ph2 m z e1 hm; omega))).2
  · obtain ⟨m, hm, e1⟩ := r_take hz
    exact ph2 m z e1 hm
end RAFT3
