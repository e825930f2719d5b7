/-! the agreement: what stays true (rS), and why a commit is in the paths of all who are elected later -/
section RAFT2
variable {E : Type} {tm : E → Nat} {mc : E → Option Nat} {c0 : Nat} {suc : Nat → Nat → Prop} {quo : Nat → (Nat → Bool) → Prop}
/-- somebody was elected in a later term whose path has not these entries -/
def rlk {E : Type} (LL : Nat → List E) (es : List (RE E)) (t j : Nat) : Prop := ∃ e ∈ es, t < e.1 ∧ ¬ (LL t).take j <+: e.2.2.1
/-- entry j of that term's leader is of that term -/
def rown {E : Type} (tm : E → Nat) (LL : Nat → List E) (t j : Nat) : Prop := 1 ≤ j ∧ ∃ x, (LL t)[j - 1]? = some x ∧ tm x = t
def rcoh {E : Type} (tm : E → Nat) (LL : Nat → List E) (p : List E) : Prop := ∀ i x, p[i]? = some x → p.take (i + 1) <+: LL (tm x)
abbrev RG (E : Type) : Type := (Nat → List E) × List RK × List (RE E) × (Nat → Nat → Nat → Nat → Prop) × (Nat → Nat → Nat → Prop) × (Nat → Nat → Nat → Nat → Prop) × (Nat → Nat → Nat → Prop) × (Nat → Nat → Option (List E × Nat))
def gL {E : Type} (g : RG E) := g.1
def gK {E : Type} (g : RG E) := g.2.1
def gE {E : Type} (g : RG E) := g.2.2.1
def gMV {E : Type} (g : RG E) := g.2.2.2.1
def gMA {E : Type} (g : RG E) := g.2.2.2.2.1
def gRV {E : Type} (g : RG E) := g.2.2.2.2.2.1
def gRA {E : Type} (g : RG E) := g.2.2.2.2.2.2.1
def gC {E : Type} (g : RG E) := g.2.2.2.2.2.2.2
def rS1 {E : Type} (tm : E → Nat) (mc : E → Option Nat) (c0 : Nat) (suc : Nat → Nat → Prop) (quo : Nat → (Nat → Bool) → Prop) (g : RG E) : Prop :=
  ∀ (n : Nat) (k : RK), (gK g)[n]? = some k → k.2.1 ≤ k.2.2.1 ∧ k.2.2.1 ≤ (gL g k.1).length ∧ rown tm (gL g) k.1 k.2.1 ∧ (∃ e ∈ gE g, e.1 = k.1) ∧ quo (rcf mc c0 ((gL g k.1).take k.2.2.1)) k.2.2.2 ∧ (∀ v, k.2.2.2 v = true → ∃ i, gRA g k.1 v i ∧ k.2.1 ≤ i) ∧ rju tm mc c0 suc (gL g) ((gK g).take n) ((gL g k.1).take k.2.2.1)
def rS3 {E : Type} (tm : E → Nat) (mc : E → Option Nat) (c0 : Nat) (suc : Nat → Nat → Prop) (quo : Nat → (Nat → Bool) → Prop) (g : RG E) : Prop :=
  ∀ (n : Nat) (e : RE E), (gE g)[n]? = some e → e.2.2.1 <+: gL g e.1 ∧ (∀ x ∈ e.2.2.1, tm x < e.1) ∧ (∀ x ∈ (gL g e.1).drop e.2.2.1.length, tm x = e.1) ∧ quo (rcf mc c0 e.2.2.1) e.2.2.2.2 ∧ e.2.2.2.1 ≤ (gK g).length ∧ rju tm mc c0 suc (gL g) ((gK g).take e.2.2.2.1) e.2.2.1 ∧ gC g e.1 e.2.1 = some (e.2.2.1, e.2.2.2.1) ∧ (∀ v, e.2.2.2.2 v = true → ∃ k, k ≤ n ∧ gRV g e.1 v e.2.1 k) ∧ (∀ z ∈ (gK g).take e.2.2.2.1, ∃ i e', i < n ∧ (gE g)[i]? = some e' ∧ e'.1 = z.1)
def rS4 {E : Type} (g : RG E) : Prop := ∀ (n n' : Nat) (e e' : RE E), (gE g)[n]? = some e → (gE g)[n']? = some e' → e.1 = e'.1 → n = n'
def rS5 {E : Type} (g : RG E) : Prop := ∀ t, (∀ e ∈ gE g, e.1 ≠ t) → gL g t = []
def rS7 {E : Type} (tm : E → Nat) (g : RG E) : Prop := ∀ t v c k t1 i, gMV g t v c k → gMA g t1 v i → t1 < t → ∀ j, j ≤ i → rown tm (gL g) t1 j → k ≤ (gE g).length ∧ ∃ P kc, gC g t c = some (P, kc) ∧ ((gL g t1).take j <+: P ∨ rlk (gL g) ((gE g).take k) t1 j)
def rS8 {E : Type} (g : RG E) : Prop := ∀ t v c k P kc, gMV g t v c k → gC g t c = some (P, kc) → ∀ z ∈ (gK g).take kc, t < z.1 → z.2.2.2 v = true → False
def rS9 {E : Type} (g : RG E) : Prop := ∀ t v c k c' k', gMV g t v c k → gMV g t v c' k' → c = c'
def rS10 {E : Type} (g : RG E) : Prop := (∀ t v c k, gRV g t v c k → gMV g t v c k) ∧ (∀ t v i, gRA g t v i → gMA g t v i) ∧ (∀ t v i, gMA g t v i → i ≤ (gL g t).length)
/-- a commit is in the paths of those who were elected later, or campaigned behind it -/
def rS11 {E : Type} (g : RG E) : Prop := ∀ (n : Nat) (k : RK) (e : RE E), (gK g)[n]? = some k → e ∈ gE g → (n < e.2.2.2.1 ∨ k.1 < e.1) → k.1 < e.1 ∧ rcp (gL g) k <+: e.2.2.1
def rS14 {E : Type} (tm : E → Nat) (mc : E → Option Nat) (c0 : Nat) (suc : Nat → Nat → Prop) (g : RG E) : Prop := ∀ t s P kc, gC g t s = some (P, kc) → rcoh tm (gL g) P ∧ (∀ x ∈ P, tm x < t) ∧ kc ≤ (gK g).length ∧ rju tm mc c0 suc (gL g) ((gK g).take kc) P
def rS {E : Type} (tm : E → Nat) (mc : E → Option Nat) (c0 : Nat) (suc : Nat → Nat → Prop) (quo : Nat → (Nat → Bool) → Prop) (g : RG E) : Prop :=
  rS1 tm mc c0 suc quo g ∧ rS3 tm mc c0 suc quo g ∧ rS4 g ∧ rS5 g ∧ (∀ t, rcoh tm (gL g) (gL g t)) ∧ rS7 tm g ∧ rS8 g ∧ rS9 g ∧ rS10 g ∧ rS11 g ∧ (∀ t, rju tm mc c0 suc (gL g) (gK g) (gL g t)) ∧ rS14 tm mc c0 suc g
theorem r_mem {α : Type} {l : List α} {a : α} (h : a ∈ l) : ∃ n, l[n]? = some a ∧ n < l.length := by
  obtain ⟨n, hn, e⟩ := List.mem_iff_getElem.mp h
  exact ⟨n, by rw [List.getElem?_eq_getElem hn, e], hn⟩
theorem r_of {α : Type} {l : List α} {n : Nat} {a : α} (h : l[n]? = some a) : a ∈ l := List.mem_of_getElem? h
theorem r_take {α : Type} {l : List α} {n : Nat} {a : α} (h : a ∈ l.take n) : ∃ m, m < n ∧ l[m]? = some a := by
  obtain ⟨m, e, hm⟩ := r_mem h
  rw [List.length_take] at hm
  refine ⟨m, by omega, ?_⟩
  rw [List.getElem?_take_of_lt (by omega)] at e
  exact e
theorem r_take' {α : Type} {l : List α} {n m : Nat} {a : α} (h : l[m]? = some a) (hm : m < n) : a ∈ l.take n := by
  have : (l.take n)[m]? = some a := by rw [List.getElem?_take_of_lt hm]; exact h
  exact r_of this
/-- terms in a leader's path are not above its own -/
theorem rS_le {g : RG E} (h3 : rS3 tm mc c0 suc quo g) (h5 : rS5 g) {t : Nat} : ∀ x ∈ gL g t, tm x ≤ t := by
  intro x hx
  by_cases q : ∃ e ∈ gE g, e.1 = t
  · obtain ⟨e, he, rfl⟩ := q
    obtain ⟨n, hn, -⟩ := r_mem he
    obtain ⟨a1, a2, a3, -⟩ := h3 n e hn
    obtain ⟨w, hw⟩ := a1
    rw [← hw] at hx
    rcases List.mem_append.mp hx with hx | hx
    · exact Nat.le_of_lt (a2 x hx)
    · exact Nat.le_of_eq (a3 x (by rw [← hw, List.drop_left]; exact hx))
  · rw [h5 t (fun e he z => q ⟨e, he, z⟩)] at hx
    cases hx
/-- two commits: one is the other's beginning -/
theorem rS_chain {g : RG E} (hg : rS tm mc c0 suc quo g) {k z : RK} (hk : k ∈ gK g) (hz : z ∈ gK g) : rcmp (rcp (gL g) z) (rcp (gL g) k) := by
  obtain ⟨h1, h3, -, -, -, -, -, -, -, h11, -⟩ := hg
  obtain ⟨n, hn, -⟩ := r_mem hk
  obtain ⟨m, hm, -⟩ := r_mem hz
  rcases Nat.lt_trichotomy z.1 k.1 with h | h | h
  · obtain ⟨e, he, hek⟩ := (h1 n k hn).2.2.2.1
    obtain ⟨-, h⟩ := h11 m z e hm he (Or.inr (by omega))
    obtain ⟨i, hi, -⟩ := r_mem he
    have h6 := (h3 i e hi).1
    rw [hek] at h6
    exact rcmp_of (h.trans h6) (List.take_prefix _ _)
  · unfold rcp
    rw [h]
    exact rcmp_of (List.take_prefix _ _) (List.take_prefix _ _)
  · obtain ⟨e, he, hek⟩ := (h1 m z hm).2.2.2.1
    obtain ⟨-, h⟩ := h11 n k e hn he (Or.inr (by omega))
    obtain ⟨i, hi, -⟩ := r_mem he
    have h6 := (h3 i e hi).1
    rw [hek] at h6
    exact rcmp_of (List.take_prefix _ _) (h.trans h6)
/-- who both told a commit and voted later for one: the commit is in that one's path -/
theorem rS_voter {g : RG E} (hg : rS tm mc c0 suc quo g) {k : RK} {t s kn v : Nat} {P : List E} {kc : Nat} (hown : rown tm (gL g) k.1 k.2.1) (hak : ∃ i, gRA g k.1 v i ∧ k.2.1 ≤ i) (ht : k.1 < t) (hv : gRV g t v s kn) (hc : gC g t s = some (P, kc))
    (hps : ∀ e ∈ (gE g).take kn, k.1 < e.1 → rcp (gL g) k <+: e.2.2.1) : rcp (gL g) k <+: P := by
  obtain ⟨-, -, -, -, -, h7, -, -, h10, -⟩ := hg
  obtain ⟨i, hi, hle⟩ := hak
  obtain ⟨-, P', kc', e1, e2⟩ := h7 t v s kn k.1 i (h10.1 _ _ _ _ hv) (h10.2.1 _ _ _ hi) ht k.2.1 hle hown
  rw [hc] at e1
  cases e1
  rcases e2 with e2 | ⟨e, he, e3, e4⟩
  · exact e2
  · exact absurd (hps e he e3) e4
/-- a new commit is in the paths of all who were elected in later terms -/
theorem rS_commit (hI : ∀ C D D' Q Q', (D = C ∨ suc C D) → (D' = C ∨ suc C D') → quo D Q → quo D' Q' → ∃ v, Q v = true ∧ Q' v = true) {g : RG E} (hg : rS tm mc c0 suc quo g) {k : RK}
    (h1 : k.2.1 ≤ k.2.2.1) (h2 : k.2.2.1 = (gL g k.1).length) (hown : rown tm (gL g) k.1 k.2.1) (hel : ∃ e ∈ gE g, e.1 = k.1) (hq : quo (rcf mc c0 (gL g k.1)) k.2.2.2) (hak : ∀ v, k.2.2.2 v = true → ∃ i, gRA g k.1 v i ∧ k.2.1 ≤ i) :
    ∀ (n : Nat) (e : RE E), (gE g)[n]? = some e → k.1 < e.1 → rcp (gL g) k <+: e.2.2.1 := by
  have hg' := hg
  obtain ⟨s1, s3, s4, s5, s6, s7, s8, s9, s10, s11, s12, s14⟩ := hg'
  have htk : (gL g k.1).take k.2.2.1 = gL g k.1 := by rw [h2]; exact List.take_length
  intro n
  induction n using Nat.strongRecOn with
  | _ n ih =>
    intro e he hlt
    obtain ⟨a1, a2, a3, a4, a5, a6, a7, a8, a9⟩ := s3 n e he
    rcases r_core (E := E) (tm := tm) (mc := mc) (c0 := c0) hI (LL := gL g) (k := k) (P := e.2.2.1) (Qe := e.2.2.2.2) (kk := gK g) (ke := (gK g).take e.2.2.2.1) (fun z => ∃ m, (gK g)[m]? = some z ∧ (m < e.2.2.2.1 ∨ z.1 ≤ k.1))
      h1 (by rw [htk]; exact hq) (by rw [htk]; exact s12 _) (rS_le s3 s5) a4 a6 (fun z hz => by
        obtain ⟨m, hm, e1⟩ := r_take hz
        exact ⟨m, e1, Or.inl hm⟩) (fun z hz hle => by
        obtain ⟨m, hm, -⟩ := r_mem hz
        exact ⟨⟨m, hm, Or.inr hle⟩, (s11 m z e hm (r_of he) (Or.inr (by omega))).2⟩) (fun z hz => by
        obtain ⟨m, hm, hz⟩ := hz
        -- comparable
        rcases Nat.lt_trichotomy z.1 k.1 with h | h | h
        · obtain ⟨e1, he1, hek⟩ := hel
          obtain ⟨-, h⟩ := s11 m z e1 hm he1 (Or.inr (by omega))
          obtain ⟨i, hi, -⟩ := r_mem he1
          have h6 := (s3 i e1 hi).1
          rw [hek] at h6
          exact rcmp_of (h.trans h6) (List.take_prefix _ _)
        · unfold rcp
          rw [h]
          exact rcmp_of (List.take_prefix _ _) (List.take_prefix _ _)
        · have hmk : m < e.2.2.2.1 := by omega
          -- elected before: its commit stands before the campaign
          obtain ⟨i, e1, hin, hi, hez⟩ := a9 z (r_take' hm hmk)
          have h := ih i hin e1 hi (by omega)
          have h6 := (s3 i e1 hi).1
          rw [hez] at h6
          exact rcmp_of (List.take_prefix _ _) (h.trans h6)) with h | ⟨v, v1, v2⟩
    · exact h
    · obtain ⟨kn, hkn, hrv⟩ := a8 v v2
      exact rS_voter hg hown (hak v v1) hlt hrv a7 (fun e2 he2 hlt2 => by
        obtain ⟨m, hm, e3⟩ := r_take he2
        exact ih m (by omega) e2 e3 hlt2)
end RAFT2
