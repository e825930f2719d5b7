/-! THE AGREEMENT, by itself: paths (lists of entries), leaders' paths (LL, by term), commits, elections. A commit: (term, how many entries, how long the leader's path was, who had told it). An election: (term, leader, its path then, how many commits there were when it campaigned, who voted). No machine here. -/
section RAFT
variable {E : Type} {tm : E → Nat} {mc : E → Option Nat} {c0 : Nat} {suc : Nat → Nat → Prop} {quo : Nat → (Nat → Bool) → Prop}
abbrev RK : Type := Nat × Nat × Nat × (Nat → Bool)
abbrev RE (E : Type) : Type := Nat × Nat × List E × Nat × (Nat → Bool)
/-- the members that a path says -/
def rcf {E : Type} (mc : E → Option Nat) (c0 : Nat) (p : List E) : Nat := p.foldl (fun c x => (mc x).getD c) c0
/-- behind r no entry of q changes the members -/
def rnm {E : Type} (mc : E → Option Nat) (r q : List E) : Prop := ∃ w, q = r ++ w ∧ ∀ x ∈ w, mc x = none
/-- what a commit says -/
def rcp {E : Type} (LL : Nat → List E) (k : RK) : List E := (LL k.1).take k.2.1
/-- each entry that changes the members: the one before it is agreed -/
def rju {E : Type} (tm : E → Nat) (mc : E → Option Nat) (c0 : Nat) (suc : Nat → Nat → Prop) (LL : Nat → List E) (ks : List RK) (p : List E) : Prop :=
  ∀ q x c, q ++ [x] <+: p → mc x = some c → suc (rcf mc c0 q) c ∧ ∃ r, r <+: q ∧ rnm mc r q ∧ (r = [] ∨ ∃ k ∈ ks, k.1 ≤ tm x ∧ r <+: rcp LL k)
theorem rnm_refl {r : List E} : rnm mc r r := ⟨[], by simp, fun x hx => absurd hx List.not_mem_nil⟩
theorem rcf_app {p w : List E} : rcf mc c0 (p ++ w) = rcf mc (rcf mc c0 p) w := by
  unfold rcf
  rw [List.foldl_append]
theorem rcf_none {c : Nat} : ∀ (w : List E), (∀ x ∈ w, mc x = none) → rcf mc c w = c
  | [], _ => rfl
  | x :: w, h => by
    have h1 := h x List.mem_cons_self
    have h2 := rcf_none (c := c) w (fun y hy => h y (List.mem_cons_of_mem _ hy))
    unfold rcf at *
    simp only [List.foldl_cons, h1, Option.getD_none]
    exact h2
theorem rnm_cf {r q : List E} (h : rnm mc r q) : rcf mc c0 q = rcf mc c0 r := by
  obtain ⟨w, rfl, h2⟩ := h
  rw [rcf_app, rcf_none w h2]
theorem rnm_pre {r q : List E} (h : rnm mc r q) : r <+: q := by
  obtain ⟨w, rfl, -⟩ := h
  exact List.prefix_append _ _
/-- the first entry behind r that changes the members -/
theorem r_first : ∀ (w r : List E), rnm mc r (r ++ w) ∨ ∃ q x, q ++ [x] <+: r ++ w ∧ mc x ≠ none ∧ rnm mc r q
  | [], r => Or.inl (by rw [List.append_nil]; exact rnm_refl)
  | x :: w, r => by
    by_cases hx : mc x = none
    · rcases r_first w (r ++ [x]) with h | ⟨q, y, h1, h2, h3⟩
      · left
        obtain ⟨v, e1, e2⟩ := h
        refine ⟨x :: v, ?_, ?_⟩
        · rw [List.append_assoc, List.append_assoc] at e1
          exact e1
        · intro y hy
          rcases List.mem_cons.mp hy with rfl | hy
          · exact hx
          · exact e2 y hy
      · right
        refine ⟨q, y, ?_, h2, ?_⟩
        · rw [List.append_assoc] at h1
          exact h1
        · obtain ⟨v, rfl, e2⟩ := h3
          refine ⟨x :: v, by simp, ?_⟩
          intro z hz
          rcases List.mem_cons.mp hz with rfl | hz
          · exact hx
          · exact e2 z hz
    · right
      exact ⟨r, x, ⟨w, by simp⟩, hx, rnm_refl⟩
theorem r_first' {r p : List E} (h : r <+: p) : rnm mc r p ∨ ∃ q x, q ++ [x] <+: p ∧ mc x ≠ none ∧ rnm mc r q := by
  obtain ⟨w, rfl⟩ := h
  exact r_first w r
/-- the members of a path are those of a beginning of it, or come next behind those, when nothing longer of it is agreed -/
theorem r_close {LL : Nat → List E} {ks : List RK} {p r : List E} (hj : rju tm mc c0 suc LL ks p) (hr : r <+: p) (hm : ∀ k ∈ ks, ∀ r2, (∃ x ∈ p, k.1 ≤ tm x) → r2 <+: p → r2 <+: rcp LL k → r2.length ≤ r.length) : rcf mc c0 p = rcf mc c0 r ∨ suc (rcf mc c0 r) (rcf mc c0 p) := by
  rcases r_first' (mc := mc) hr with h | ⟨q, x, h1, h2, h3⟩
  · exact Or.inl (rnm_cf h)
  · right
    obtain ⟨c, hc⟩ := Option.ne_none_iff_exists'.mp h2
    obtain ⟨g1, -⟩ := hj q x c h1 hc
    rcases r_first' (mc := mc) h1 with h | ⟨q2, y, k1, k2, k3⟩
    · rw [rnm_cf h, rcf_app, ← rnm_cf h3]
      unfold rcf at *
      simp only [List.foldl_cons, List.foldl_nil, hc, Option.getD_some]
      exact g1
    · exfalso
      obtain ⟨c2, hc2⟩ := Option.ne_none_iff_exists'.mp k2
      obtain ⟨-, r2, e1, e2, e3⟩ := hj q2 y c2 k1 hc2
      have hlen : r2.length ≤ r.length := by
        rcases e3 with rfl | ⟨k, hk, ht, e3⟩
        · exact Nat.zero_le _
        · refine hm k hk r2 ⟨y, ?_, ht⟩ (e1.trans ((List.prefix_append q2 [y]).trans k1)) e3
          exact k1.subset (List.mem_append_right _ List.mem_cons_self)
      -- x stands in q2 behind r2
      have a1 : r.length ≤ q.length := (rnm_pre h3).length_le
      obtain ⟨w, e4, e5⟩ := e2
      obtain ⟨w2, rfl, -⟩ := k3
      have a2 : r2 <+: q := by
        refine List.prefix_of_prefix_length_le (l₃ := q ++ [x] ++ w2) ?_ ?_ (by omega)
        · rw [e4]; exact List.prefix_append _ _
        · rw [List.append_assoc]; exact List.prefix_append _ _
      obtain ⟨w3, rfl⟩ := a2
      have e6 : w = w3 ++ [x] ++ w2 := by
        have : r2 ++ w = r2 ++ (w3 ++ [x] ++ w2) := by rw [← e4]; simp [List.append_assoc]
        exact List.append_cancel_left this
      exact h2 (e5 x (by rw [e6]; simp))
theorem r_max (P : Nat → Prop) (h0 : P 0) : ∀ n, ∃ m, m ≤ n ∧ P m ∧ ∀ j, j ≤ n → P j → j ≤ m
  | 0 => ⟨0, Nat.le_refl _, h0, fun j hj _ => hj⟩
  | n + 1 => by
    by_cases h : P (n + 1)
    · exact ⟨n + 1, Nat.le_refl _, h, fun j hj _ => hj⟩
    · obtain ⟨m, h1, h2, h3⟩ := r_max P h0 n
      refine ⟨m, by omega, h2, fun j hj hp => ?_⟩
      by_cases e : j = n + 1
      · subst e; exact absurd hp h
      · exact h3 j (by omega) hp
def rcmp {E : Type} (p q : List E) : Prop := p <+: q ∨ q <+: p
theorem rcmp_of {p q r : List E} (h1 : p <+: r) (h2 : q <+: r) : rcmp p q := by
  rcases Nat.le_total p.length q.length with h | h
  · exact Or.inl (List.prefix_of_prefix_length_le h1 h2 h)
  · exact Or.inr (List.prefix_of_prefix_length_le h2 h1 h)
/-- THE HEART: a commit is in the path of one who is elected, or somebody both told the commit and voted -/
theorem r_core (hI : ∀ C D D' Q Q', (D = C ∨ suc C D) → (D' = C ∨ suc C D') → quo D Q → quo D' Q' → ∃ v, Q v = true ∧ Q' v = true) {LL : Nat → List E} {k : RK} {P : List E} {Qe : Nat → Bool} {kk ke : List RK} (KK : RK → Prop)
    (h1 : k.2.1 ≤ k.2.2.1) (h2 : quo (rcf mc c0 ((LL k.1).take k.2.2.1)) k.2.2.2) (h3 : rju tm mc c0 suc LL kk ((LL k.1).take k.2.2.1)) (h4 : ∀ x ∈ LL k.1, tm x ≤ k.1)
    (h5 : quo (rcf mc c0 P) Qe) (h6 : rju tm mc c0 suc LL ke P) (h7 : ∀ z ∈ ke, KK z) (h8 : ∀ z ∈ kk, z.1 ≤ k.1 → KK z ∧ rcp LL z <+: P) (h9 : ∀ z, KK z → rcmp (rcp LL z) (rcp LL k)) : rcp LL k <+: P ∨ ∃ v, k.2.2.2 v = true ∧ Qe v = true := by
  obtain ⟨m, m1, m2, m3⟩ := r_max (fun m => m = 0 ∨ ∃ z, KK z ∧ P.take m <+: rcp LL z) (Or.inl rfl) P.length
  have hmax : ∀ z, KK z → ∀ r2, r2 <+: P → r2 <+: rcp LL z → r2.length ≤ (P.take m).length := by
    intro z hz r2 hr hr2
    have e : r2 = P.take r2.length := List.prefix_iff_eq_take.mp hr
    rw [List.length_take, Nat.min_eq_left m1]
    exact m3 _ hr.length_le (Or.inr ⟨z, hz, by rw [← e]; exact hr2⟩)
  have hA : rcp LL k <+: P ∨ P.take m <+: rcp LL k := by
    rcases m2 with rfl | ⟨z, hz, hp⟩
    · right; simp
    · rcases h9 z hz with h | h
      · exact Or.inr (hp.trans h)
      · rcases rcmp_of hp h with h | h
        · exact Or.inr h
        · exact Or.inl (h.trans (List.take_prefix _ _))
  rcases hA with hA | hA
  · exact Or.inl hA
  · right
    have hE := r_close h6 (List.take_prefix m P) (fun z hz r2 _ hr hr2 => hmax z (h7 z hz) r2 hr hr2)
    have hP : P.take m <+: (LL k.1).take k.2.2.1 := hA.trans (by
      unfold rcp
      exact List.take_prefix_take_left h1)
    have hD := r_close h3 hP (fun z hz r2 hx hr hr2 => by
      obtain ⟨x, hx, ht⟩ := hx
      have := h4 x (List.mem_of_mem_take hx)
      obtain ⟨g1, g2⟩ := h8 z hz (by omega)
      exact hmax z g1 r2 (hr2.trans g2) hr2)
    exact hI _ _ _ _ _ hD hE h2 h5
end RAFT
