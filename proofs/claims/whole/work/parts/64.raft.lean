/-! the agreement: votes, acknowledgements, campaigns, syncs, crashes; what a server's state owes to its promises (rH) -/
section RAFT5
variable {E : Type} {tm : E → Nat} {mc : E → Option Nat} {c0 : Nat} {suc : Nat → Nat → Prop} {quo : Nat → (Nat → Bool) → Prop}
/-- a state (term, voted, path) keeps the promises X (votes), Y (acknowledgements) of server v -/
def rH {E : Type} (tm : E → Nat) (g : RG E) (X : Nat → Nat → Nat → Nat → Prop) (Y : Nat → Nat → Nat → Prop) (v T : Nat) (V : Option Nat) (P : List E) : Prop :=
  (∀ t c k, X t v c k → t ≤ T ∧ (t = T → V = some c)) ∧ ∀ t i, Y t v i → t ≤ T ∧ ∀ j, j ≤ i → rown tm (gL g) t j → (gL g t).take j <+: P ∨ rlk (gL g) (gE g) t j
theorem rH_sub {g : RG E} {X X' : Nat → Nat → Nat → Nat → Prop} {Y Y' : Nat → Nat → Nat → Prop} {v T : Nat} {V : Option Nat} {P : List E} (hX : ∀ t c k, X' t v c k → X t v c k) (hY : ∀ t i, Y' t v i → Y t v i) (h : rH tm g X Y v T V P) : rH tm g X' Y' v T V P :=
  ⟨fun t c k hx => h.1 t c k (hX t c k hx), fun t i hy => h.2 t i (hY t i hy)⟩
/-- the leaders' paths grow, somebody is elected: promises are kept as they were -/
theorem rH_le {g g' : RG E} (hle : rLe (gL g) (gL g')) (he : ∀ e ∈ gE g, e ∈ gE g') {X : Nat → Nat → Nat → Nat → Prop} {Y : Nat → Nat → Nat → Prop} (hY : ∀ t v i, Y t v i → i ≤ (gL g t).length) {v T : Nat} {V : Option Nat} {P : List E} (h : rH tm g X Y v T V P) : rH tm g' X Y v T V P := by
  refine ⟨h.1, fun t i hy => ⟨(h.2 t i hy).1, fun j hj hown => ?_⟩⟩
  have hl : j ≤ (gL g t).length := Nat.le_trans hj (hY t v i hy)
  rcases (h.2 t i hy).2 j hj (rown_of hle hl hown) with q | q
  · left; rw [r_tk (hle t) hl]; exact q
  · exact Or.inr (rlk_le hle hl he q)
theorem rown_nil {L : Nat → List E} {t j : Nat} (h : rown tm L t j) : j ≤ (L t).length := by
  obtain ⟨h1, x, h2, -⟩ := h
  obtain ⟨hl, -⟩ := List.getElem?_eq_some_iff.mp h2
  omega
/-- the last term of a path -/
def rlt {E : Type} (tm : E → Nat) (p : List E) : Nat := match p.getLast? with
  | some x => tm x
  | none => 0
theorem rcoh_last {L : Nat → List E} {p : List E} (hp : rcoh tm L p) : p <+: L (rlt tm p) := by
  unfold rlt
  cases e : p.getLast? with
  | none => rw [List.getLast?_eq_none_iff.mp e]; exact List.nil_prefix
  | some x =>
    have h1 : p[p.length - 1]? = some x := by rw [← e, List.getLast?_eq_getElem?]
    have h2 := hp _ x h1
    have hne : p ≠ [] := fun z => by rw [z] at e; cases e
    have : 0 < p.length := List.length_pos_iff.mpr hne
    rw [show p.length - 1 + 1 = p.length by omega, List.take_length] at h2
    exact h2
/-- terms don't fall along a path -/
theorem rcoh_mono {g : RG E} (hg : rS tm mc c0 suc quo g) {p : List E} (hp : rcoh tm (gL g) p) : ∀ x ∈ p, tm x ≤ rlt tm p := fun x hx => rS_le hg.2.1 hg.2.2.2.1 x ((rcoh_last hp).subset hx)
/-- one path is as new as another: then it holds what the other one was told -/
theorem r_asnew {g : RG E} (hg : rS tm mc c0 suc quo g) {P Pc : List E} (hP : rcoh tm (gL g) P) (hc : rcoh tm (gL g) Pc) (hnew : rlt tm P < rlt tm Pc ∨ (rlt tm Pc = rlt tm P ∧ P.length ≤ Pc.length)) {t j : Nat} (hown : rown tm (gL g) t j) (hj : (gL g t).take j <+: P) (hlt : ∀ x ∈ Pc, tm x < t ∨ ∃ e ∈ gE g, e.1 = tm x) : (gL g t).take j <+: Pc ∨ rlk (gL g) (gE g) t j := by
  have hjl := rown_nil hown
  have h1 := rcoh_last hP
  have h2 := rcoh_last hc
  obtain ⟨q1, x, q2, q3⟩ := hown
  have hx : x ∈ (gL g t).take j := r_of (n := j - 1) (by rw [List.getElem?_take_of_lt (by omega)]; exact q2)
  have hxt : t ≤ rlt tm P := by rw [← q3]; exact rcoh_mono hg hP x (hj.subset hx)
  have hpos : 0 < j := by omega
  rcases hnew with h | ⟨h, hl⟩
  · -- a later last term
    have hne : Pc ≠ [] := fun z => by rw [z] at h; exact absurd h (Nat.not_lt_zero _)
    obtain ⟨y, hy⟩ : ∃ y, Pc.getLast? = some y := by
      cases e : Pc.getLast? with
      | none => exact absurd (List.getLast?_eq_none_iff.mp e) hne
      | some y => exact ⟨y, rfl⟩
    have hyt : rlt tm Pc = tm y := by unfold rlt; rw [hy]
    have hyP : y ∈ Pc := List.mem_of_getLast? hy
    rcases hlt y hyP with z | ⟨e, he, hey⟩
    · omega
    · obtain ⟨n, hn, -⟩ := r_mem he
      obtain ⟨a1, a2, a3, -⟩ := hg.2.1 n e hn
      by_cases q : (gL g t).take j <+: e.2.2.1
      · left
        rw [hyt, ← hey] at h2
        rcases rcmp_of h2 a1 with z | z
        · -- Pc within the path at the election: its last term would be lower
          have := a2 y (z.subset hyP)
          omega
        · exact q.trans z
      · right
        exact ⟨e, he, by omega, q⟩
  · left
    rw [h] at h2
    have := List.prefix_of_prefix_length_le h1 h2 hl
    exact hj.trans this
/-- a vote is made -/
def gvote {E : Type} (g : RG E) (t v c : Nat) : RG E := (gL g, gK g, gE g, fun t' v' c' k' => gMV g t' v' c' k' ∨ (t' = t ∧ v' = v ∧ c' = c ∧ k' = (gE g).length), gMA g, gRV g, gRA g, gC g)
theorem rS_gvote {g : RG E} (hg : rS tm mc c0 suc quo g) {t v c : Nat} {V : Option Nat} {P Pc : List E} {kc : Nat} (hH : rH tm g (gMV g) (gMA g) v t V P) (hV : V = none ∨ V = some c) (hP : rcoh tm (gL g) P) (hc : gC g t c = some (Pc, kc)) (hnew : rlt tm P < rlt tm Pc ∨ (rlt tm Pc = rlt tm P ∧ P.length ≤ Pc.length)) :
    rS tm mc c0 suc quo (gvote g t v c) ∧ rH tm (gvote g t v c) (gMV (gvote g t v c)) (gMA g) v t (some c) P := by
  have hg' := hg
  obtain ⟨s1, s3, s4, s5, s6, s7, s8, s9, s10, s11, s12, s14⟩ := hg'
  obtain ⟨p1, p2, p3, p4⟩ := s14 t c Pc kc hc
  have hel : ∀ x ∈ Pc, ∃ e ∈ gE g, e.1 = tm x := by
    intro x hx
    obtain ⟨n, hn, -⟩ := r_mem hx
    have h1 := p1 n x hn
    by_cases q : ∃ e ∈ gE g, e.1 = tm x
    · exact q
    · exfalso
      rw [s5 (tm x) (fun e he z => q ⟨e, he, z⟩)] at h1
      have := h1.length_le
      obtain ⟨hl, -⟩ := List.getElem?_eq_some_iff.mp hn
      rw [List.length_take, List.length_nil] at this
      omega
  refine ⟨⟨s1, s3, s4, s5, s6, ?_, ?_, ?_, ⟨fun a b d k h => Or.inl (s10.1 a b d k h), s10.2.1, s10.2.2⟩, s11, s12, s14⟩, ?_⟩
  · intro t' v' c' k' t1 i hmv hma hlt j hj hown
    rcases hmv with hmv | ⟨rfl, rfl, rfl, rfl⟩
    · exact s7 t' v' c' k' t1 i hmv hma hlt j hj hown
    · refine ⟨Nat.le_refl _, Pc, kc, hc, ?_⟩
      show _ ∨ rlk (gL g) ((gE g).take (gE g).length) t1 j
      rw [List.take_length]
      rcases (hH.2 t1 i hma).2 j hj hown with q | q
      · exact r_asnew hg hP p1 hnew hown q (fun x hx => Or.inr (hel x hx))
      · exact Or.inr q
  · intro t' v' c' k' P' kc' hmv hc' z hz hlt hq
    rcases hmv with hmv | ⟨rfl, rfl, rfl, rfl⟩
    · exact s8 t' v' c' k' P' kc' hmv hc' z hz hlt hq
    · have hc' : gC g t' c' = some (P', kc') := hc'
      obtain ⟨m, hm, hz⟩ := r_take hz
      obtain ⟨i, hi, -⟩ := (s1 m z hz).2.2.2.2.2.1 v' hq
      have := (hH.2 z.1 i (s10.2.1 _ _ _ hi)).1
      omega
  · intro t' v' c1 k1 c2 k2 h1 h2
    have hone : ∀ c' k', gMV g t v c' k' → c' = c := by
      intro c' k' h
      have := (hH.1 t c' k' h).2 rfl
      rcases hV with hV | hV
      · rw [hV] at this; cases this
      · rw [hV] at this; exact (Option.some.inj this).symm
    rcases h1 with h1 | ⟨rfl, rfl, rfl, rfl⟩ <;> rcases h2 with h2 | ⟨e1, e2, e3, e4⟩
    · exact s9 t' v' c1 k1 c2 k2 h1 h2
    · subst e1 e2 e3
      exact hone _ _ h1
    · exact (hone _ _ h2).symm
    · exact e3.symm
  · refine ⟨fun t' c' k' h => ?_, hH.2⟩
    rcases h with h | ⟨rfl, -, rfl, rfl⟩
    · obtain ⟨h1, h2⟩ := hH.1 t' c' k' h
      refine ⟨h1, fun e => ?_⟩
      have := h2 e
      rcases hV with hV | hV
      · rw [hV] at this; cases this
      · rw [hV] at this; exact this.symm ▸ rfl
    · exact ⟨Nat.le_refl _, fun _ => rfl⟩
/-- an acknowledgement is made -/
def gack {E : Type} (g : RG E) (t v i : Nat) : RG E := (gL g, gK g, gE g, gMV g, fun t' v' i' => gMA g t' v' i' ∨ (t' = t ∧ v' = v ∧ i' = i), gRV g, gRA g, gC g)
theorem rS_gack {g : RG E} (hg : rS tm mc c0 suc quo g) {t v i : Nat} {V : Option Nat} {P : List E} (hH : rH tm g (gMV g) (gMA g) v t V P) (hi : i ≤ (gL g t).length) (hp : (gL g t).take i <+: P) :
    rS tm mc c0 suc quo (gack g t v i) ∧ rH tm (gack g t v i) (gMV g) (gMA (gack g t v i)) v t V P := by
  obtain ⟨s1, s3, s4, s5, s6, s7, s8, s9, s10, s11, s12, s14⟩ := hg
  refine ⟨⟨s1, s3, s4, s5, s6, ?_, s8, s9, ⟨s10.1, fun a b d h => Or.inl (s10.2.1 a b d h), ?_⟩, s11, s12, s14⟩, hH.1, ?_⟩
  · intro t' v' c' k' t1 i' hmv hma hlt j hj hown
    rcases hma with hma | ⟨rfl, rfl, rfl⟩
    · exact s7 t' v' c' k' t1 i' hmv hma hlt j hj hown
    · have := (hH.1 t' c' k' hmv).1
      omega
  · intro t' v' i' h
    rcases h with h | ⟨rfl, rfl, rfl⟩
    · exact s10.2.2 t' v' i' h
    · exact hi
  · intro t' i' h
    rcases h with h | ⟨rfl, -, rfl⟩
    · exact hH.2 t' i' h
    · refine ⟨Nat.le_refl _, fun j hj _ => Or.inl ?_⟩
      refine List.IsPrefix.trans ?_ hp
      exact List.take_prefix_take_left hj
/-- a server campaigns -/
def gcamp {E : Type} (g : RG E) (t s : Nat) (P : List E) : RG E := (gL g, gK g, gE g, gMV g, gMA g, gRV g, gRA g, fun t' s' => if t' = t ∧ s' = s then some (P, (gK g).length) else gC g t' s')
theorem rS_gcamp {g : RG E} (hg : rS tm mc c0 suc quo g) {t s : Nat} {P : List E} (h1 : ∀ v k, ¬ gMV g t v s k) (h2 : ∀ e ∈ gE g, ¬ (e.1 = t ∧ e.2.1 = s)) (h3 : rcoh tm (gL g) P) (h4 : ∀ x ∈ P, tm x < t) (h5 : rju tm mc c0 suc (gL g) (gK g) P) : rS tm mc c0 suc quo (gcamp g t s P) := by
  obtain ⟨s1, s3, s4, s5, s6, s7, s8, s9, s10, s11, s12, s14⟩ := hg
  have hn : ∀ t' s', ¬ (t' = t ∧ s' = s) → gC (gcamp g t s P) t' s' = gC g t' s' := fun t' s' q => by show (if t' = t ∧ s' = s then _ else gC g t' s') = _; rw [if_neg q]
  refine ⟨s1, ?_, s4, s5, s6, ?_, ?_, s9, s10, s11, s12, ?_⟩
  · intro n e he
    obtain ⟨a1, a2, a3, a4, a5, a6, a7, a8, a9⟩ := s3 n e he
    exact ⟨a1, a2, a3, a4, a5, a6, by rw [hn _ _ (h2 e (r_of he))]; exact a7, a8, a9⟩
  · intro t' v' c' k' t1 i' hmv hma hlt j hj hown
    rw [hn t' c' (fun ⟨q1, q2⟩ => h1 v' k' (by rw [← q1, ← q2]; exact hmv))]
    exact s7 t' v' c' k' t1 i' hmv hma hlt j hj hown
  · intro t' v' c' k' P' kc' hmv hc' z hz hlt hq
    rw [hn t' c' (fun ⟨q1, q2⟩ => h1 v' k' (by rw [← q1, ← q2]; exact hmv))] at hc'
    exact s8 t' v' c' k' P' kc' hmv hc' z hz hlt hq
  · intro t' s' P' kc' h
    by_cases q : t' = t ∧ s' = s
    · have h : (if t' = t ∧ s' = s then some (P, (gK g).length) else gC g t' s') = some (P', kc') := h
      rw [if_pos q] at h
      cases h
      obtain ⟨rfl, rfl⟩ := q
      exact ⟨h3, h4, Nat.le_refl _, by show rju tm mc c0 suc (gL g) ((gK g).take (gK g).length) P; rw [List.take_length]; exact h5⟩
    · rw [hn _ _ q] at h
      exact s14 t' s' P' kc' h
/-- a server's promises are sure from now on -/
def gsync {E : Type} (g : RG E) (v : Nat) : RG E := (gL g, gK g, gE g, gMV g, gMA g, fun t v' c k => gRV g t v' c k ∨ (v' = v ∧ gMV g t v' c k), fun t v' i => gRA g t v' i ∨ (v' = v ∧ gMA g t v' i), gC g)
theorem rS_gsync {g : RG E} (hg : rS tm mc c0 suc quo g) {v : Nat} : rS tm mc c0 suc quo (gsync g v) := by
  obtain ⟨s1, s3, s4, s5, s6, s7, s8, s9, s10, s11, s12, s14⟩ := hg
  refine ⟨?_, ?_, s4, s5, s6, s7, s8, s9, ⟨?_, ?_, s10.2.2⟩, s11, s12, s14⟩
  · intro n k hk
    obtain ⟨b1, b2, b3, b4, b5, b6, b7⟩ := s1 n k hk
    exact ⟨b1, b2, b3, b4, b5, fun v' hv => (b6 v' hv).elim fun i hi => ⟨i, Or.inl hi.1, hi.2⟩, b7⟩
  · intro n e he
    obtain ⟨a1, a2, a3, a4, a5, a6, a7, a8, a9⟩ := s3 n e he
    exact ⟨a1, a2, a3, a4, a5, a6, a7, fun v' hv => (a8 v' hv).elim fun k hk => ⟨k, hk.1, Or.inl hk.2⟩, a9⟩
  · intro t v' c k h
    rcases h with h | h
    · exact s10.1 _ _ _ _ h
    · exact h.2
  · intro t v' i h
    rcases h with h | h
    · exact s10.2.1 _ _ _ h
    · exact h.2
/-- a server crashes: what it promised and was not sure is forgotten -/
def gcrash {E : Type} (g : RG E) (v : Nat) : RG E := (gL g, gK g, gE g, fun t v' c k => gMV g t v' c k ∧ (v' = v → gRV g t v' c k), fun t v' i => gMA g t v' i ∧ (v' = v → gRA g t v' i), gRV g, gRA g, gC g)
theorem rS_gcrash {g : RG E} (hg : rS tm mc c0 suc quo g) {v : Nat} : rS tm mc c0 suc quo (gcrash g v) := by
  obtain ⟨s1, s3, s4, s5, s6, s7, s8, s9, s10, s11, s12, s14⟩ := hg
  refine ⟨s1, s3, s4, s5, s6, ?_, ?_, ?_, ⟨?_, ?_, ?_⟩, s11, s12, s14⟩
  · intro t' v' c' k' t1 i' hmv hma hlt j hj hown
    exact s7 t' v' c' k' t1 i' hmv.1 hma.1 hlt j hj hown
  · intro t' v' c' k' P' kc' hmv hc' z hz hlt hq
    exact s8 t' v' c' k' P' kc' hmv.1 hc' z hz hlt hq
  · intro t' v' c1 k1 c2 k2 h1 h2
    exact s9 t' v' c1 k1 c2 k2 h1.1 h2.1
  · intro t v' c k h
    exact ⟨s10.1 _ _ _ _ h, fun _ => h⟩
  · intro t v' i h
    exact ⟨s10.2.1 _ _ _ h, fun _ => h⟩
  · intro t v' i h
    exact s10.2.2 t v' i h.1
end RAFT5
