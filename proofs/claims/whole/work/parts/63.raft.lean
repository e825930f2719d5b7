/-! the agreement: its steps -/
section RAFT4
variable {E : Type} {tm : E → Nat} {mc : E → Option Nat} {c0 : Nat} {suc : Nat → Nat → Prop} {quo : Nat → (Nat → Bool) → Prop}
/-- leaders' paths have grown -/
def rLe {E : Type} (L L' : Nat → List E) : Prop := ∀ t, L t <+: L' t
theorem rLe_refl {L : Nat → List E} : rLe L L := fun _ => List.prefix_refl _
theorem r_tk {p q : List E} {i : Nat} (h : p <+: q) (hi : i ≤ p.length) : q.take i = p.take i := by
  obtain ⟨w, rfl⟩ := h
  exact List.take_append_of_le_length hi
theorem rcp_le {L L' : Nat → List E} {k : RK} (h : rLe L L') (hk : k.2.1 ≤ (L k.1).length) : rcp L' k = rcp L k := r_tk (h _) hk
theorem rcp_pre {L L' : Nat → List E} {k : RK} (h : rLe L L') : rcp L k <+: rcp L' k := by
  unfold rcp
  obtain ⟨w, hw⟩ := h k.1
  rw [← hw, List.take_append]
  exact List.prefix_append _ _
theorem rju_le {L L' : Nat → List E} {ks ks' : List RK} {p : List E} (h : rLe L L') (hk : ∀ k ∈ ks, k ∈ ks') (hj : rju tm mc c0 suc L ks p) : rju tm mc c0 suc L' ks' p := by
  intro q x c h1 h2
  obtain ⟨g1, r, g2, g3, g4⟩ := hj q x c h1 h2
  refine ⟨g1, r, g2, g3, ?_⟩
  rcases g4 with rfl | ⟨k, e1, e2, e3⟩
  · exact Or.inl rfl
  · exact Or.inr ⟨k, hk k e1, e2, e3.trans (rcp_pre h)⟩
theorem rju_sub {L : Nat → List E} {ks : List RK} {p q : List E} (h : q <+: p) (hj : rju tm mc c0 suc L ks p) : rju tm mc c0 suc L ks q :=
  fun a x c h1 h2 => hj a x c (h1.trans h) h2
theorem rown_le {L L' : Nat → List E} {t j : Nat} (h : rLe L L') (hj : rown tm L t j) : rown tm L' t j := by
  obtain ⟨h1, x, h2, h3⟩ := hj
  refine ⟨h1, x, ?_, h3⟩
  obtain ⟨w, hw⟩ := h t
  obtain ⟨hl, -⟩ := List.getElem?_eq_some_iff.mp h2
  rw [← hw, List.getElem?_append_left hl]
  exact h2
theorem rown_of {L L' : Nat → List E} {t j : Nat} (h : rLe L L') (hl : j ≤ (L t).length) (hj : rown tm L' t j) : rown tm L t j := by
  obtain ⟨h1, x, h2, h3⟩ := hj
  refine ⟨h1, x, ?_, h3⟩
  obtain ⟨w, hw⟩ := h t
  rw [← hw, List.getElem?_append_left (by omega)] at h2
  exact h2
theorem rlk_le {L L' : Nat → List E} {es es' : List (RE E)} {t j : Nat} (h : rLe L L') (hl : j ≤ (L t).length) (he : ∀ e ∈ es, e ∈ es') (hj : rlk L es t j) : rlk L' es' t j := by
  obtain ⟨e, e1, e2, e3⟩ := hj
  exact ⟨e, he e e1, e2, by rw [r_tk (h t) hl]; exact e3⟩
theorem rcoh_le {L L' : Nat → List E} {p : List E} (h : rLe L L') (hp : rcoh tm L p) : rcoh tm L' p := fun i x hx => (hp i x hx).trans (h _)
theorem rcoh_sub {L : Nat → List E} {p q : List E} (h : q <+: p) (hp : rcoh tm L p) : rcoh tm L q := by
  intro i x hx
  obtain ⟨hl, -⟩ := List.getElem?_eq_some_iff.mp hx
  rw [← r_tk h (by omega)]
  refine hp i x ?_
  obtain ⟨w, rfl⟩ := h
  rw [List.getElem?_append_left hl]
  exact hx
theorem rcoh_nil {L : Nat → List E} : rcoh tm L [] := fun i x hx => by simp at hx
/-- somebody is elected -/
def gelect {E : Type} (g : RG E) (t s : Nat) (P : List E) (kc : Nat) (Q : Nat → Bool) : RG E := (fun t' => if t' = t then P else gL g t', gK g, gE g ++ [(t, s, P, kc, Q)], gMV g, gMA g, gRV g, gRA g, gC g)
theorem rS_gelect (hI : ∀ C D D' Q Q', (D = C ∨ suc C D) → (D' = C ∨ suc C D') → quo D Q → quo D' Q' → ∃ v, Q v = true ∧ Q' v = true) {g : RG E} (hg : rS tm mc c0 suc quo g) {t s kc : Nat} {P : List E} {Qe : Nat → Bool}
    (hc : gC g t s = some (P, kc)) (hq : quo (rcf mc c0 P) Qe) (hv : ∀ v, Qe v = true → ∃ k, k ≤ (gE g).length ∧ gRV g t v s k) (hne : ∀ e ∈ gE g, ¬ (e.1 = t ∧ e.2.1 = s)) :
    gL g t = [] ∧ rLe (gL g) (gL (gelect g t s P kc Qe)) ∧ rS tm mc c0 suc quo (gelect g t s P kc Qe) := by
  obtain ⟨f1, f2, f3⟩ := rS_elect hI hg hc hq hv hne
  obtain ⟨s1, s3, s4, s5, s6, s7, s8, s9, s10, s11, s12, s14⟩ := hg
  have hnil : gL g t = [] := s5 t f1
  have hle : rLe (gL g) (gL (gelect g t s P kc Qe)) := by
    intro t'
    show gL g t' <+: if t' = t then P else gL g t'
    by_cases q : t' = t
    · subst q; rw [if_pos rfl, hnil]; exact List.nil_prefix
    · rw [if_neg q]; exact List.prefix_refl _
  refine ⟨hnil, hle, ?_⟩
  have hLt : gL (gelect g t s P kc Qe) t = P := by show (if t = t then P else gL g t) = P; rw [if_pos rfl]
  have hLn : ∀ t', t' ≠ t → gL (gelect g t s P kc Qe) t' = gL g t' := fun t' q => by show (if t' = t then P else gL g t') = gL g t'; rw [if_neg q]
  have hmem : ∀ e ∈ gE g, e ∈ gE (gelect g t s P kc Qe) := fun e he => List.mem_append_left _ he
  have hget : ∀ (n : Nat) (e : RE E), (gE (gelect g t s P kc Qe))[n]? = some e → (gE g)[n]? = some e ∨ (n = (gE g).length ∧ e = (t, s, P, kc, Qe)) := by
    intro n e he
    have he : (gE g ++ [(t, s, P, kc, Qe)])[n]? = some e := he
    rcases Nat.lt_trichotomy n (gE g).length with q | q | q
    · left; rw [List.getElem?_append_left q] at he; exact he
    · right; subst q; rw [List.getElem?_append_right (Nat.le_refl _), Nat.sub_self] at he; exact ⟨rfl, (Option.some.inj he).symm⟩
    · rw [List.getElem?_eq_none (by simp; omega)] at he; cases he
  have hnew : ∀ t', (∃ e ∈ gE g, e.1 = t') → t' ≠ t := fun t' ⟨e, he, z⟩ q => f1 e he (z.trans q)
  obtain ⟨p1, p2, p3, p4⟩ := s14 t s P kc hc
  have hcohP : rcoh tm (gL (gelect g t s P kc Qe)) P := rcoh_le hle p1
  refine ⟨?_, ?_, ?_, ?_, ?_, ?_, s8, s9, ?_, ?_, ?_, ?_⟩
  · intro n k hk
    obtain ⟨b1, b2, b3, b4, b5, b6, b7⟩ := s1 n k hk
    have hkt := hnew k.1 b4
    obtain ⟨e, he, hek⟩ := b4
    rw [hLn _ hkt]
    exact ⟨b1, b2, rown_le hle b3, ⟨e, hmem e he, hek⟩, b5, b6, rju_le hle (fun _ h => h) b7⟩
  · intro n e he
    rcases hget n e he with he | ⟨rfl, rfl⟩
    · obtain ⟨a1, a2, a3, a4, a5, a6, a7, a8, a9⟩ := s3 n e he
      have het := hnew e.1 ⟨e, r_of he, rfl⟩
      rw [hLn _ het]
      refine ⟨a1, a2, a3, a4, a5, rju_le hle (fun _ h => h) a6, a7, a8, fun z hz => ?_⟩
      obtain ⟨i, e', hi, he', hez⟩ := a9 z hz
      refine ⟨i, e', hi, ?_, hez⟩
      show (gE g ++ [_])[i]? = some e'
      rw [List.getElem?_append_left (by obtain ⟨hl, -⟩ := List.getElem?_eq_some_iff.mp he'; exact hl)]
      exact he'
    · dsimp only
      rw [hLt]
      refine ⟨List.prefix_refl _, p2, fun x hx => (by rw [List.drop_length] at hx; cases hx), hq, p3, rju_le hle (fun _ h => h) p4, hc, hv, fun z hz => ?_⟩
      obtain ⟨m, hm, hz⟩ := r_take hz
      obtain ⟨e, he, hez⟩ := (s1 m z hz).2.2.2.1
      obtain ⟨i, hi, hl⟩ := r_mem he
      exact ⟨i, e, hl, by show (gE g ++ [_])[i]? = some e; rw [List.getElem?_append_left hl]; exact hi, hez⟩
  · intro n n' e e' he he' h
    rcases hget n e he with he | ⟨rfl, rfl⟩ <;> rcases hget n' e' he' with he' | ⟨rfl, rfl⟩
    · exact s4 n n' e e' he he' h
    · exact absurd h (f1 e (r_of he))
    · exact absurd h.symm (f1 e' (r_of he'))
    · rfl
  · intro t' ht
    have : t' ≠ t := fun q => ht (t, s, P, kc, Qe) (List.mem_append_right _ List.mem_cons_self) q.symm
    rw [hLn _ this]
    exact s5 t' (fun e he => ht e (hmem e he))
  · intro t'
    by_cases q : t' = t
    · subst q; rw [hLt]; exact hcohP
    · rw [hLn _ q]; exact rcoh_le hle (s6 t')
  · intro t' v c k t1 i hmv hma hlt j hj hown
    have hlen : j ≤ (gL g t1).length := Nat.le_trans hj (s10.2.2 t1 v i hma)
    obtain ⟨r1, P', kc', r2, r3⟩ := s7 t' v c k t1 i hmv hma hlt j hj (rown_of hle hlen hown)
    refine ⟨by show k ≤ (gE g ++ [_]).length; simp; omega, P', kc', r2, ?_⟩
    rw [r_tk (hle t1) hlen]
    rcases r3 with r3 | r3
    · exact Or.inl r3
    · right
      refine rlk_le hle hlen (fun e he => ?_) r3
      show e ∈ (gE g ++ [_]).take k
      rw [List.take_append_of_le_length r1]
      exact he
  · exact ⟨s10.1, s10.2.1, fun t' v i h => Nat.le_trans (s10.2.2 t' v i h) (hle t').length_le⟩
  · intro n k e hk he h
    have hkt := hnew k.1 (s1 n k hk).2.2.2.1
    have hrc : rcp (gL (gelect g t s P kc Qe)) k = rcp (gL g) k := by unfold rcp; rw [hLn _ hkt]
    rw [hrc]
    rcases List.mem_append.mp he with he | he
    · exact s11 n k e hk he h
    · rcases List.mem_cons.mp he with rfl | he
      · dsimp only at h ⊢
        have hk1 : k.1 < t := by
          rcases h with h | h
          · exact f2 k (r_take' hk h)
          · exact h
        exact ⟨hk1, f3 k (r_of hk) hk1⟩
      · cases he
  · intro t'
    by_cases q : t' = t
    · subst q; rw [hLt]; exact rju_le hle (fun z hz => List.mem_of_mem_take hz) p4
    · rw [hLn _ q]; exact rju_le hle (fun _ h => h) (s12 t')
  · intro t' s' P' kc' h
    obtain ⟨q1, q2, q3, q4⟩ := s14 t' s' P' kc' h
    exact ⟨rcoh_le hle q1, q2, q3, rju_le hle (fun _ h => h) q4⟩
/-- a leader writes an entry -/
def gapp {E : Type} (g : RG E) (t : Nat) (x : E) : RG E := (fun t' => if t' = t then gL g t ++ [x] else gL g t', gK g, gE g, gMV g, gMA g, gRV g, gRA g, gC g)
theorem rS_gapp {g : RG E} (hg : rS tm mc c0 suc quo g) {t : Nat} {x : E} (hx : tm x = t) (hel : ∃ e ∈ gE g, e.1 = t) (hm : ∀ c, mc x = some c → suc (rcf mc c0 (gL g t)) c ∧ ∃ r, r <+: gL g t ∧ rnm mc r (gL g t) ∧ (r = [] ∨ ∃ k ∈ gK g, k.1 ≤ t ∧ r <+: rcp (gL g) k)) :
    rLe (gL g) (gL (gapp g t x)) ∧ rS tm mc c0 suc quo (gapp g t x) := by
  obtain ⟨s1, s3, s4, s5, s6, s7, s8, s9, s10, s11, s12, s14⟩ := hg
  have hLt : gL (gapp g t x) t = gL g t ++ [x] := by show (if t = t then _ else gL g t) = _; rw [if_pos rfl]
  have hLn : ∀ t', t' ≠ t → gL (gapp g t x) t' = gL g t' := fun t' q => by show (if t' = t then _ else gL g t') = gL g t'; rw [if_neg q]
  have hle : rLe (gL g) (gL (gapp g t x)) := by
    intro t'
    by_cases q : t' = t
    · subst q; rw [hLt]; exact List.prefix_append _ _
    · rw [hLn _ q]; exact List.prefix_refl _
  refine ⟨hle, ?_, ?_, s4, ?_, ?_, ?_, s8, s9, ?_, ?_, ?_, ?_⟩
  · intro n k hk
    obtain ⟨b1, b2, b3, b4, b5, b6, b7⟩ := s1 n k hk
    rw [r_tk (hle k.1) b2]
    exact ⟨b1, Nat.le_trans b2 (hle k.1).length_le, rown_le hle b3, b4, b5, b6, rju_le hle (fun _ h => h) b7⟩
  · intro n e he
    obtain ⟨a1, a2, a3, a4, a5, a6, a7, a8, a9⟩ := s3 n e he
    refine ⟨a1.trans (hle _), a2, fun y hy => ?_, a4, a5, rju_le hle (fun _ h => h) a6, a7, a8, a9⟩
    by_cases q : e.1 = t
    · rw [q, hLt, List.drop_append_of_le_length (by rw [← q]; exact a1.length_le)] at hy
      rcases List.mem_append.mp hy with hy | hy
      · exact a3 y (by rw [q]; exact hy)
      · rcases List.mem_cons.mp hy with rfl | hy
        · exact hx.trans q.symm
        · cases hy
    · rw [hLn _ q] at hy; exact a3 y hy
  · intro t' ht
    have : t' ≠ t := fun q => by
      obtain ⟨e, he, z⟩ := hel
      exact ht e he (z.trans q.symm)
    rw [hLn _ this]
    exact s5 t' ht
  · intro t'
    by_cases q : t' = t
    · subst q
      rw [hLt]
      intro i y hy
      rcases Nat.lt_or_ge i (gL g t').length with q | q
      · rw [List.getElem?_append_left q] at hy
        rw [List.take_append_of_le_length (by omega)]
        exact (s6 t' i y hy).trans (hle _)
      · rw [List.getElem?_append_right q] at hy
        have hi : i - (gL g t').length = 0 := by
          obtain ⟨hl, -⟩ := List.getElem?_eq_some_iff.mp hy
          simp at hl
          omega
        rw [hi] at hy
        cases hy
        rw [hx, hLt]
        exact List.take_prefix _ _
    · rw [hLn _ q]; exact rcoh_le hle (s6 t')
  · intro t' v c k t1 i hmv hma hlt j hj hown
    have hlen : j ≤ (gL g t1).length := Nat.le_trans hj (s10.2.2 t1 v i hma)
    obtain ⟨r1, P', kc', r2, r3⟩ := s7 t' v c k t1 i hmv hma hlt j hj (rown_of hle hlen hown)
    refine ⟨r1, P', kc', r2, ?_⟩
    rw [r_tk (hle t1) hlen]
    rcases r3 with r3 | r3
    · exact Or.inl r3
    · exact Or.inr (rlk_le hle hlen (fun e he => he) r3)
  · exact ⟨s10.1, s10.2.1, fun t' v i h => Nat.le_trans (s10.2.2 t' v i h) (hle t').length_le⟩
  · intro n k e hk he h
    have hrc : rcp (gL (gapp g t x)) k = rcp (gL g) k := rcp_le hle (Nat.le_trans (s1 n k hk).1 (s1 n k hk).2.1)
    rw [hrc]
    exact s11 n k e hk he h
  · intro t'
    by_cases q : t' = t
    · subst q
      rw [hLt]
      intro a y c h1 h2
      rcases Nat.lt_or_ge a.length (gL g t').length with q | q
      · have h3 : a ++ [y] <+: gL g t' := List.prefix_of_prefix_length_le h1 (List.prefix_append _ _) (by simp; omega)
        exact rju_le hle (fun _ h => h) (s12 t') a y c h3 h2
      · have hl := h1.length_le
        simp at hl
        have e1 : a ++ [y] = gL g t' ++ [x] := h1.eq_of_length (by simp; omega)
        obtain ⟨rfl, e2⟩ := List.append_inj' e1 rfl
        cases e2
        obtain ⟨g1, r, g2, g3, g4⟩ := hm c h2
        refine ⟨g1, r, g2, g3, ?_⟩
        rcases g4 with g4 | ⟨k, k1, k2, k3⟩
        · exact Or.inl g4
        · exact Or.inr ⟨k, k1, by omega, k3.trans (rcp_pre hle)⟩
    · rw [hLn _ q]; exact rju_le hle (fun _ h => h) (s12 t')
  · intro t' s' P' kc' h
    obtain ⟨q1, q2, q3, q4⟩ := s14 t' s' P' kc' h
    exact ⟨rcoh_le hle q1, q2, q3, rju_le hle (fun _ h => h) q4⟩
/-- a leader commits -/
def gcommit {E : Type} (g : RG E) (k : RK) : RG E := (gL g, gK g ++ [k], gE g, gMV g, gMA g, gRV g, gRA g, gC g)
theorem r_tkl {α : Type} {l : List α} {x : α} {n : Nat} (h : n ≤ l.length) : (l ++ [x]).take n = l.take n := List.take_append_of_le_length h
theorem rS_gcommit (hI : ∀ C D D' Q Q', (D = C ∨ suc C D) → (D' = C ∨ suc C D') → quo D Q → quo D' Q' → ∃ v, Q v = true ∧ Q' v = true) {g : RG E} (hg : rS tm mc c0 suc quo g) {k : RK}
    (h1 : k.2.1 ≤ k.2.2.1) (h2 : k.2.2.1 = (gL g k.1).length) (hown : rown tm (gL g) k.1 k.2.1) (hel : ∃ e ∈ gE g, e.1 = k.1) (hq : quo (rcf mc c0 (gL g k.1)) k.2.2.2) (hak : ∀ v, k.2.2.2 v = true → ∃ i, gRA g k.1 v i ∧ k.2.1 ≤ i) : rS tm mc c0 suc quo (gcommit g k) := by
  have hc := rS_commit hI hg h1 h2 hown hel hq hak
  obtain ⟨s1, s3, s4, s5, s6, s7, s8, s9, s10, s11, s12, s14⟩ := hg
  have hget : ∀ (n : Nat) (z : RK), (gK g ++ [k])[n]? = some z → (gK g)[n]? = some z ∨ (n = (gK g).length ∧ z = k) := by
    intro n e he
    rcases Nat.lt_trichotomy n (gK g).length with q | q | q
    · left; rw [List.getElem?_append_left q] at he; exact he
    · right; subst q; rw [List.getElem?_append_right (Nat.le_refl _), Nat.sub_self] at he; exact ⟨rfl, (Option.some.inj he).symm⟩
    · rw [List.getElem?_eq_none (by simp; omega)] at he; cases he
  have htk : (gL g k.1).take k.2.2.1 = gL g k.1 := by rw [h2]; exact List.take_length
  refine ⟨?_, ?_, s4, s5, s6, s7, ?_, s9, s10, ?_, ?_, ?_⟩
  · intro n z hz
    rcases hget n z hz with hz | ⟨rfl, rfl⟩
    · obtain ⟨b1, b2, b3, b4, b5, b6, b7⟩ := s1 n z hz
      refine ⟨b1, b2, b3, b4, b5, b6, ?_⟩
      show rju tm mc c0 suc (gL g) ((gK g ++ [k]).take n) _
      rw [r_tkl (by obtain ⟨hl, -⟩ := List.getElem?_eq_some_iff.mp hz; omega)]
      exact b7
    · refine ⟨h1, Nat.le_of_eq h2, hown, hel, by show quo (rcf mc c0 ((gL g z.1).take z.2.2.1)) _; rw [htk]; exact hq, hak, ?_⟩
      show rju tm mc c0 suc (gL g) ((gK g ++ [z]).take (gK g).length) ((gL g z.1).take z.2.2.1)
      rw [r_tkl (Nat.le_refl _), List.take_length, htk]
      exact s12 _
  · intro n e he
    obtain ⟨a1, a2, a3, a4, a5, a6, a7, a8, a9⟩ := s3 n e he
    refine ⟨a1, a2, a3, a4, by show _ ≤ (gK g ++ [k]).length; simp; omega, ?_, a7, a8, ?_⟩
    · show rju tm mc c0 suc (gL g) ((gK g ++ [k]).take e.2.2.2.1) _
      rw [r_tkl a5]; exact a6
    · show ∀ z ∈ (gK g ++ [k]).take e.2.2.2.1, _
      rw [r_tkl a5]; exact a9
  · intro t v c kn P kc h3 h4
    have := (s14 t c P kc h4).2.2.1
    show ∀ z ∈ (gK g ++ [k]).take kc, _
    rw [r_tkl this]
    exact s8 t v c kn P kc h3 h4
  · intro n z e hz he h
    rcases hget n z hz with hz | ⟨rfl, rfl⟩
    · exact s11 n z e hz he h
    · obtain ⟨i, hi, -⟩ := r_mem he
      have hlt : z.1 < e.1 := by
        rcases h with h | h
        · have := (s3 i e hi).2.2.2.2.1
          omega
        · exact h
      exact ⟨hlt, hc i e hi hlt⟩
  · intro t
    exact rju_le rLe_refl (fun z hz => List.mem_append_left _ hz) (s12 t)
  · intro t s P kc h
    obtain ⟨q1, q2, q3, q4⟩ := s14 t s P kc h
    refine ⟨q1, q2, by show _ ≤ (gK g ++ [k]).length; simp; omega, ?_⟩
    show rju tm mc c0 suc (gL g) ((gK g ++ [k]).take kc) _
    rw [r_tkl q3]; exact q4
end RAFT4
