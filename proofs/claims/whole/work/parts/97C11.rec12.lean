/-! the disk is tidied -/
theorem aU_s {α : Type} {w : Nat → α} {i : Nat} : aU w i (w i) = w := by
  funext j
  unfold aU
  by_cases q : j = i
  · rw [if_pos q, q]
  · rw [if_neg q]
theorem aU_2 {α : Type} {w : Nat → α} {i : Nat} {v x : α} : aU (aU w i v) i x = aU w i x := by
  funext j
  unfold aU
  by_cases q : j = i
  · rw [if_pos q, if_pos q]
  · rw [if_neg q, if_neg q, if_neg q]
theorem aFcS_2 {a : AA} {s : Nat} {G H : Nat → AF} : aFcS (aFcS a s G) s H = aFcS a s H := by
  show (a.1, aWay a, aWt a, aLg a, aMc a, aSh a, aPm a, aU (aU (aFc a) s G) s H, a.2.2.2.2.2.2.2.2) = _
  rw [aU_2]
  rfl
theorem aFcS_s {a : AA} {s : Nat} : aFcS a s (aFc a s) = a := by
  show (a.1, aWay a, aWt a, aLg a, aMc a, aSh a, aPm a, aU (aFc a) s (aFc a s), a.2.2.2.2.2.2.2.2) = _
  rw [aU_s]
  rfl
def aTdF (a : AA) (s : Nat) (c l : List Nat) (f : Nat) : AF := if f ∈ l then (if f ∈ c then fT (aFc a s f) else fX (aFc a s f)) else aFc a s f
theorem aTdF_c {a : AA} {s f : Nat} {c r : List Nat} : aU (aTdF a s c r) f (if f ∈ c then fT (aFc a s f) else fX (aFc a s f)) = aTdF a s c (f :: r) := by
  funext x
  unfold aU aTdF
  by_cases q : x = f
  · rw [if_pos q, q, if_pos List.mem_cons_self]
  · rw [if_neg q]
    by_cases q2 : x ∈ r
    · rw [if_pos q2, if_pos (List.mem_cons_of_mem _ q2)]
    · rw [if_neg q2, if_neg (fun z => (List.mem_cons.mp z).elim q q2)]
theorem aTidy_e {a : AA} {s : Nat} {c : List Nat} (hs : s < 7) : ∀ l : List Nat, l.Nodup → (∀ f ∈ l, f < 16) → ∃ g : Nat → Nat → Int32, aTidy a s c l = aFcS ((g, a.1.2), a.2) s (aTdF a s c l) ∧ ∀ f i, ¬ (f = 43 ∧ i / 16 = s) → g f i = a.1.1 f i := by
  intro l
  induction l with
  | nil =>
    intro _ _
    refine ⟨a.1.1, ?_, fun _ _ _ => rfl⟩
    have : aTdF a s c [] = aFc a s := funext fun f => if_neg (by simp)
    rw [this]
    exact aFcS_s.symm
  | cons f r ih =>
    intro hn hl
    rw [List.nodup_cons] at hn
    obtain ⟨g, e, hg⟩ := ih hn.2 (fun x hx => hl x (List.mem_cons_of_mem _ hx))
    have hf := hl f List.mem_cons_self
    have ef : aFc (aFcS ((g, a.1.2), a.2) s (aTdF a s c r)) s = aTdF a s c r := if_pos rfl
    have e1 : aTdF a s c r f = aFc a s f := if_neg hn.1
    have e0 : aTidy a s c (f :: r) = if f ∈ c then aPut (aTidy a s c r) s f (fT (aFc (aTidy a s c r) s f)) else aRemove (aTidy a s c r) s f := rfl
    rw [e0, e]
    by_cases q : f ∈ c
    · rw [if_pos q]
      refine ⟨g, ?_, hg⟩
      unfold aPut
      rw [ef, aFcS_2, e1, ← aTdF_c, if_pos q]
    · rw [if_neg q]
      refine ⟨fun x i => if x = 43 ∧ i = 16 * s + f then 0 else g x i, ?_, fun x i h => ?_⟩
      · unfold aRemove aPut
        rw [ef, aFcS_2, e1, ← aTdF_c, if_neg q]
        rfl
      · dsimp only
        rw [if_neg (fun z => h ⟨z.1, by omega⟩)]
        exact hg x i h
theorem segs_nodup : aSegs.Nodup := by decide
theorem tidy_recB {a : AA} {s b : Nat} {c : List Nat} {es : List AE} (hs : s < 7) : zA s 0 (aI (aLgS (aChS (aTidy (aI a 52 s 1) s c aSegs) s c) s es) 56 s (Int32.ofNat (b + es.length))) = recB a s b (aTdF a s c aSegs) c es := by
  obtain ⟨g, e, hg⟩ := aTidy_e (a := aI a 52 s 1) (c := c) hs aSegs segs_nodup (fun f hf => (seg_mem.mp hf).2)
  rw [e]
  refine Prod.ext (Prod.ext (funext fun f => funext fun i => ?_) rfl) rfl
  show (if f = 43 ∧ i / 16 = s ∧ 0 ≤ i % 16 then (0 : Int32) else (if f = 56 ∧ i = s then Int32.ofNat (b + es.length) else g f i)) = (if f = 52 ∧ i = s then (1 : Int32) else if f = 56 ∧ i = s then Int32.ofNat (b + es.length) else if f = 43 ∧ i / 16 = s ∧ 0 ≤ i % 16 then 0 else a.1.1 f i)
  by_cases q1 : f = 43 ∧ i / 16 = s
  · rw [if_pos ⟨q1.1, q1.2, Nat.zero_le _⟩, if_neg (by omega), if_neg (by omega), if_pos ⟨q1.1, q1.2, Nat.zero_le _⟩]
  · rw [if_neg (fun z => q1 ⟨z.1, z.2.1⟩), hg f i q1]
    by_cases q2 : f = 52 ∧ i = s
    · rw [if_pos q2, if_neg (by omega)]
      show (if f = 52 ∧ i = s then (1 : Int32) else a.1.1 f i) = 1
      rw [if_pos q2]
    · rw [if_neg q2]
      by_cases q3 : f = 56 ∧ i = s
      · rw [if_pos q3, if_pos q3]
      · rw [if_neg q3, if_neg q3, if_neg (fun z => q1 ⟨z.1, z.2.1⟩)]
        show (if f = 52 ∧ i = s then (1 : Int32) else a.1.1 f i) = a.1.1 f i
        rw [if_neg q2]
/-- is a file in the chain -/
theorem tidy_in {F : Nat} {K572 : RS → Int32 → Int32 → Option RS} {τ : RS} {s k : Nat} {c : List Nat} {Q : RS → Prop} (hs : s < 7) (hk : k < 16) (h49 : τ.1 49 s = Int32.ofNat c.length) (h12 : c.length ≤ 12) (h50 : ∀ i, i < c.length → τ.1 50 (12 * s + i) = Int32.ofNat (c.getD i 0) ∧ c.getD i 0 < 16)
    (yes : k ∈ c → WP (K572 τ (Int32.ofNat s) (Int32.ofNat (k + 1))) Q) (no : k ∉ c → WP (if xc0 .eq (τ.1 38 (2 * (16 * s + k))) = true then K572 τ (Int32.ofNat s) (Int32.ofNat (k + 1)) else (m_removeFile τ (Int32.ofNat s) (Int32.ofNat k)).bind fun p194 => K572 p194 (Int32.ofNat s) (Int32.ofNat (k + 1))) Q) :
    ∀ n j, c.length + 1 ≤ j + n → j ≤ c.length → WP (m_recoverLog_b585 F K572 n τ (Int32.ofNat s) (Int32.ofNat k) (aB (decide (k ∈ c.take j))) (Int32.ofNat j)) Q := by
  intro n
  induction n with
  | zero => intro j h1 h2; omega
  | succ n ih =>
    intro j h1 h2
    unfold m_recoverLog_b585
    refine WP_ld rfl 7 (by decide +kernel) hs ?_
    rw [h49]
    refine WP_if (i_gei (by omega) (by omega)) (fun q => ?_) (fun q => ?_)
    · have : j = c.length := by omega
      subst this
      rw [List.take_length]
      unfold m_recoverLog_b657
      rw [i_s]
      by_cases q2 : k ∈ c
      · rw [decide_eq_true q2]
        exact WP_if c0_ne (fun _ => yes q2) (fun y => absurd (fun w => absurd (show (1 : Int32) = 0 from w) (by decide)) y)
      · rw [decide_eq_false q2]
        refine WP_if c0_ne (fun y => absurd rfl y) (fun _ => ?_)
        refine WP_eq m_fileOf_n (WP_ld rfl 224 (by decide +kernel) (by omega) ?_)
        exact no q2
    · have ht : (k ∈ c.take (j + 1)) ↔ (k ∈ c.take j ∨ k = c.getD j 0) := by
        rw [take_s (d := 0) (by omega), List.mem_append, List.mem_singleton]
      unfold m_recoverLog_b618 m_recoverLog_b623
      rw [i_s]
      have nx := ih (j + 1) (by omega) (by omega)
      by_cases q2 : k ∈ c.take j
      · rw [decide_eq_true q2]
        rw [decide_eq_true (ht.mpr (Or.inl q2))] at nx
        exact WP_if c0_ne (fun _ => nx) (fun y => absurd (fun w => absurd (show (1 : Int32) = 0 from w) (by decide)) y)
      · rw [decide_eq_false q2]
        refine WP_if c0_ne (fun y => absurd rfl y) (fun _ => ?_)
        obtain ⟨e50, l50⟩ := h50 j (by omega)
        rw [show (12 : Int32) * Int32.ofNat s + Int32.ofNat j = Int32.ofNat (12 * s + j) from i_ma (c := 12)]
        refine WP_ld rfl 84 (by decide +kernel) (by omega) ?_
        rw [e50]
        refine WP_if c2_ne (fun y => ?_) (fun y => ?_)
        · rw [i_eqi (by omega) (by omega)] at y
          rw [decide_eq_false (fun z => (ht.mp z).elim q2 (fun w => y w.symm))] at nx
          exact nx
        · rw [Classical.not_not, i_eqi (by omega) (by omega)] at y
          rw [decide_eq_true (ht.mpr (Or.inr y.symm))] at nx
          exact nx
theorem fX_C {K : List AK} {G : AF} : fX (fC K G) = fX G := by
  refine Prod.ext (funext fun i => ?_) rfl
  show (if i = 1 then (0 : Int32) else if i = 0 then 0 else if i = 1 then Int32.ofNat (ofs K G.2.1 (aWhole G).length) else G.1 i) = if i = 1 then 0 else if i = 0 then 0 else G.1 i
  by_cases q : i = 1
  · rw [if_pos q, if_pos q]
  · rw [if_neg q, if_neg q, if_neg q]
theorem fX_s {G : AF} (h0 : G.1 0 = 0) (h1 : G.1 1 = 0) : fX G = G := by
  refine Prod.ext (funext fun i => ?_) rfl
  show (if i = 1 then (0 : Int32) else if i = 0 then 0 else G.1 i) = G.1 i
  by_cases q : i = 1
  · rw [if_pos q, q, h1]
  · rw [if_neg q]
    by_cases q2 : i = 0
    · rw [if_pos q2, q2, h0]
    · rw [if_neg q2]
/-- the files when those below k are tidied -/
def fcK (K : List AK) (a : AA) (s : Nat) (done c : List Nat) (k f : Nat) : AF := if f ∈ c then fT (aFc a s f) else if 4 ≤ f ∧ f < k then fX (aFc a s f) else fcR K a s done c f
theorem fcK_0 {K : List AK} {a : AA} {s : Nat} {done c : List Nat} (h : ∀ g ∈ c, g ∈ done) : fcK K a s done c 4 = fcR K a s done c := by
  funext f
  unfold fcK
  by_cases q : f ∈ c
  · rw [if_pos q]
    unfold fcR
    rw [if_pos (h f q), if_pos q]
  · rw [if_neg q, if_neg (by omega)]
theorem fcK_16 {K : List AK} {a : AA} {s : Nat} {done c : List Nat} (h : ∀ g ∈ c, 4 ≤ g ∧ g < 16) (h2 : ∀ g ∈ done, 4 ≤ g ∧ g < 16) : fcK K a s done c 16 = aTdF a s c aSegs := by
  funext f
  unfold fcK aTdF
  by_cases q : f ∈ c
  · rw [if_pos q, if_pos (seg_mem.mpr (h f q)), if_pos q]
  · rw [if_neg q]
    by_cases q2 : 4 ≤ f ∧ f < 16
    · rw [if_pos q2, if_pos (seg_mem.mpr q2), if_neg q]
    · rw [if_neg q2, if_neg (fun z => q2 (seg_mem.mp z))]
      unfold fcR
      rw [if_neg (fun z => q2 (h2 f z))]
theorem fcK_s {K : List AK} {a : AA} {s k : Nat} {done c : List Nat} (hk : 4 ≤ k) (h : k ∉ c → fX (aFc a s k) = fcR K a s done c k) : fcK K a s done c (k + 1) = fcK K a s done c k := by
  funext f
  unfold fcK
  by_cases q : f ∈ c
  · rw [if_pos q, if_pos q]
  · rw [if_neg q, if_neg q]
    by_cases q2 : f = k
    · rw [if_pos (by omega), if_neg (by omega), q2]
      exact h (q2 ▸ q)
    · by_cases q3 : 4 ≤ f ∧ f < k
      · rw [if_pos (by omega), if_pos q3]
      · rw [if_neg (by omega), if_neg q3]
theorem fcK_r {K : List AK} {a : AA} {s k : Nat} {done c : List Nat} (hk : 4 ≤ k) (hc : k ∉ c) : aU (fcK K a s done c k) k (fX (fcR K a s done c k)) = fcK K a s done c (k + 1) := by
  have e1 : fcK K a s done c (k + 1) k = fX (aFc a s k) := by
    unfold fcK
    rw [if_neg hc, if_pos ⟨hk, Nat.lt_succ_self k⟩]
  have e2 : fX (fcR K a s done c k) = fX (aFc a s k) := by
    unfold fcR
    by_cases q : k ∈ done
    · rw [if_pos q, if_neg hc, fX_C]
    · rw [if_neg q]
  funext f
  unfold aU
  by_cases q2 : f = k
  · rw [if_pos q2, q2, e1, e2]
  · rw [if_neg q2]
    unfold fcK
    by_cases q : f ∈ c
    · rw [if_pos q, if_pos q]
    · rw [if_neg q, if_neg q]
      by_cases q3 : 4 ≤ f ∧ f < k
      · rw [if_pos q3, if_pos (show 4 ≤ f ∧ f < k + 1 by omega)]
      · rw [if_neg q3, if_neg (show ¬ (4 ≤ f ∧ f < k + 1) by omega)]
theorem recB_rm {a : AA} {s b k : Nat} {c : List Nat} {es : List AE} {G : Nat → AF} (hk : k < 16) : aRemove (recB a s b G c es) s k = recB a s b (aU G k (fX (G k))) c es := by
  have e : aFc (recB a s b G c es) s = G := if_pos rfl
  unfold aRemove aPut
  rw [e]
  refine Prod.ext (Prod.ext (funext fun f => funext fun i => ?_) rfl) ?_
  · show (if f = 43 ∧ i = 16 * s + k then (0 : Int32) else if f = 52 ∧ i = s then (1 : Int32) else if f = 56 ∧ i = s then Int32.ofNat (b + es.length) else if f = 43 ∧ i / 16 = s ∧ 0 ≤ i % 16 then 0 else a.1.1 f i) = (if f = 52 ∧ i = s then (1 : Int32) else if f = 56 ∧ i = s then Int32.ofNat (b + es.length) else if f = 43 ∧ i / 16 = s ∧ 0 ≤ i % 16 then 0 else a.1.1 f i)
    by_cases q : f = 43 ∧ i = 16 * s + k
    · rw [if_pos q, if_neg (by omega), if_neg (by omega), if_pos (by omega)]
    · rw [if_neg q]
  · show (aWay a, aWt a, aU (aLg a) s es, aMc a, aSh a, aPm a, aU (aU (aFc a) s G) s (aU G k (fX (G k))), aFk a, aU (aCh a) s c, a.2.2.2.2.2.2.2.2.2.2) = (aWay a, aWt a, aU (aLg a) s es, aMc a, aSh a, aPm a, aU (aFc a) s (aU G k (fX (G k))), aFk a, aU (aCh a) s c, a.2.2.2.2.2.2.2.2.2.2)
    rw [aU_2]
