/-! the class's memory: reads, writes, lists, letters -/
theorem WP_b {α β : Type} {x : α} {g : α → Option β} {Q : β → Prop} (k : WP (g x) Q) : WP ((some x).bind g) Q := k
theorem crd_n {c : CS} {cl i f n : Nat} {j : Int32} (hj : j = Int32.ofNat n) (h : n < cal c cl i f) (hb : n < 2147483648) : crd c cl i f j = some (cI c cl i f n) := by
  subst hj
  unfold crd
  rw [i_cl hb, if_neg (fun z => z.elim (i_nn hb) (by omega))]
theorem cwr_n {c : CS} {cl i f n : Nat} {j v : Int32} (hj : j = Int32.ofNat n) (h : n < cal c cl i f) (hb : n < 2147483648) : cwr c cl i f j v = some (csI c cl i f n v) := by
  subst hj
  unfold cwr
  rw [i_cl hb, if_neg (fun z => z.elim (i_nn hb) (by omega))]
theorem crdJ_n {c : CS} {cl i f n : Nat} {j : Int32} (hj : j = Int32.ofNat n) (h : n < cal c cl i f) (hb : n < 2147483648) : crdJ c cl i f j = some (cJ c cl i f n) := by
  subst hj
  unfold crdJ
  rw [i_cl hb, if_neg (fun z => z.elim (i_nn hb) (by omega))]
theorem cwrJ_n {c : CS} {cl i f n : Nat} {j : Int32} {v : Int64} (hj : j = Int32.ofNat n) (h : n < cal c cl i f) (hb : n < 2147483648) : cwrJ c cl i f j v = some (csJ c cl i f n v) := by
  subst hj
  unfold cwrJ
  rw [i_cl hb, if_neg (fun z => z.elim (i_nn hb) (by omega))]
theorem ccpy_n {c : CS} {a i f s a' i' f' t n : Nat} {x y z : Int32} (hx : x = Int32.ofNat s) (hy : y = Int32.ofNat t) (hz : z = Int32.ofNat n) (h1 : s + n ≤ cal c a i f) (h2 : t + n ≤ cal c a' i' f') (h3 : s + n < 2147483648) (h4 : t + n < 2147483648) :
    ccpy c a i f x a' i' f' y z = some (csA c a' i' f' (fun w => if t ≤ w ∧ w < t + n then cI c a i f (s + (w - t)) else cI c a' i' f' w)) := by
  subst hx
  subst hy
  subst hz
  unfold ccpy
  rw [i_cl (by omega), i_cl (by omega), i_cl (by omega), if_neg]
  rintro (h | h | h | h | h)
  · exact i_nn (by omega) h
  · exact i_nn (by omega) h
  · exact i_nn (by omega) h
  · omega
  · omega
theorem KSc_al {c : CS} {a a' : AA} (h : KSc c a) (e : ∀ F, F ∈ sT.map (fun x => x.1) → ∀ i, aS a' F i = aS a F i) : KSc c a' := fun x hx i hi => (h x hx i hi).trans (e x.1 (List.mem_map.mpr ⟨x, hx, rfl⟩) i).symm
/-! lists of letters -/
theorem clput_e {c : CS} {cl i f : Nat} {l : List Nat} (h1 : cL c cl i f ≤ 100000) : (((cS c cl i f).length < cL c cl i f ∧ clput c cl i f l = some (csS c cl i f l (cL c cl i f) (cT c))) ∨ (cL c cl i f ≤ (cS c cl i f).length ∧ clput c cl i f l = some (csS c cl i f l (clcap (cL c cl i f)) ((cT c).1 + 1, (cT c).2 + clcap (cL c cl i f))))) := by
  unfold clput
  rw [if_neg (by omega)]
  by_cases q : (cS c cl i f).length < cL c cl i f
  · rw [if_pos q]
    exact Or.inl ⟨q, rfl⟩
  · rw [if_neg q]
    exact Or.inr ⟨by omega, rfl⟩
theorem csS_Sk {c : CS} {cl i f n : Nat} {l : List Nat} {T : Nat × Nat} {a b x : Nat} : cS (csS c cl i f l n T) a b x = if a = cl ∧ b = i ∧ x = f then l else cS c a b x := rfl
theorem csS_Lk {c : CS} {cl i f n : Nat} {l : List Nat} {T : Nat × Nat} {a b x : Nat} : cL (csS c cl i f l n T) a b x = if a = cl ∧ b = i ∧ x = f then n else cL c a b x := rfl
theorem csS_T {c : CS} {cl i f n : Nat} {l : List Nat} {T : Nat × Nat} : cT (csS c cl i f l n T) = T := rfl
theorem csS_8 {c : CS} {cl i f n : Nat} {l : List Nat} {T : Nat × Nat} (h : cl ≠ 8) {b x : Nat} : Sm c (csS c cl i f l n T) 8 b x := ⟨fun j => if_neg (fun z => h z.1.symm), fun _ => rfl, if_neg (fun z => h z.1.symm), if_neg (fun z => h z.1.symm)⟩
theorem clcap_b {n : Nat} (h : n ≤ 400) : clcap n ≤ 600 ∧ n + 4 ≤ clcap n ∨ n < 8 := by
  unfold clcap
  split
  · omega
  · split <;> omega
/-- the three rows of letters -/
def lsP (cl i f : Nat) : Prop := (cl = 14 ∧ i = 0 ∧ f = 15) ∨ (cl = 14 ∧ i = 0 ∧ f = 16) ∨ (cl = 13 ∧ i < 7 ∧ f = 7)
theorem nL_S {c : CS} {cl i f n : Nat} {l : List Nat} {T : Nat × Nat} {H : List (Nat × Option AL)} (hp : lsP cl i f) : nL (csS c cl i f l n T) H + (cS c cl i f).length = nL c H + l.length := by
  unfold nL
  rcases hp with ⟨rfl, rfl, rfl⟩ | ⟨rfl, rfl, rfl⟩ | ⟨rfl, hi, rfl⟩
  · rw [show (fun s => (cS (csS c 14 0 15 l n T) 13 s 7).length) = fun s => (cS c 13 s 7).length from rfl, show cS (csS c 14 0 15 l n T) 14 0 15 = l from rfl, show cS (csS c 14 0 15 l n T) 14 0 16 = cS c 14 0 16 from rfl]
    omega
  · rw [show (fun s => (cS (csS c 14 0 16 l n T) 13 s 7).length) = fun s => (cS c 13 s 7).length from rfl, show cS (csS c 14 0 16 l n T) 14 0 16 = l from rfl, show cS (csS c 14 0 16 l n T) 14 0 15 = cS c 14 0 15 from rfl]
    omega
  · have := sumN_upd (f := fun s => (cS (csS c 13 i 7 l n T) 13 s 7).length) (g := fun s => (cS c 13 s 7).length) 7 hi (fun j _ hne => by
      show (if 13 = 13 ∧ j = i ∧ 7 = 7 then l else cS c 13 j 7).length = _
      rw [if_neg (fun z => hne z.2.1)])
    have e : (cS (csS c 13 i 7 l n T) 13 i 7).length = l.length := by rw [csS_Sk, if_pos ⟨rfl, rfl, rfl⟩]
    simp only [e] at this
    rw [show cS (csS c 13 i 7 l n T) 14 0 16 = cS c 14 0 16 from rfl, show cS (csS c 13 i 7 l n T) 14 0 15 = cS c 14 0 15 from rfl]
    omega
theorem nC_S {c : CS} {cl i f n : Nat} {l : List Nat} {T : Nat × Nat} {H : List (Nat × Option AL)} (hp : lsP cl i f) (x : Nat) : nC (csS c cl i f l n T) H x + (cS c cl i f).count x = nC c H x + l.count x := by
  unfold nC
  rcases hp with ⟨rfl, rfl, rfl⟩ | ⟨rfl, rfl, rfl⟩ | ⟨rfl, hi, rfl⟩
  · rw [show (fun s => (cS (csS c 14 0 15 l n T) 13 s 7).count x) = fun s => (cS c 13 s 7).count x from rfl, show cS (csS c 14 0 15 l n T) 14 0 15 = l from rfl, show cS (csS c 14 0 15 l n T) 14 0 16 = cS c 14 0 16 from rfl]
    omega
  · rw [show (fun s => (cS (csS c 14 0 16 l n T) 13 s 7).count x) = fun s => (cS c 13 s 7).count x from rfl, show cS (csS c 14 0 16 l n T) 14 0 16 = l from rfl, show cS (csS c 14 0 16 l n T) 14 0 15 = cS c 14 0 15 from rfl]
    omega
  · have := sumN_upd (f := fun s => (cS (csS c 13 i 7 l n T) 13 s 7).count x) (g := fun s => (cS c 13 s 7).count x) 7 hi (fun j _ hne => by
      show (if 13 = 13 ∧ j = i ∧ 7 = 7 then l else cS c 13 j 7).count x = _
      rw [if_neg (fun z => hne z.2.1)])
    have e : (cS (csS c 13 i 7 l n T) 13 i 7).count x = l.count x := by rw [csS_Sk, if_pos ⟨rfl, rfl, rfl⟩]
    simp only [e] at this
    rw [show cS (csS c 13 i 7 l n T) 14 0 16 = cS c 14 0 16 from rfl, show cS (csS c 13 i 7 l n T) 14 0 15 = cS c 14 0 15 from rfl]
    omega
theorem gA_S {c : CS} {cl i f n : Nat} {l : List Nat} {T : Nat × Nat} {w : Nat → Nat} (hp : lsP cl i f) : gA w (csS c cl i f l n T) + w 3 * cL c cl i f = gA w c + w 3 * n := by
  unfold gA
  rcases hp with ⟨rfl, rfl, rfl⟩ | ⟨rfl, rfl, rfl⟩ | ⟨rfl, hi, rfl⟩
  · rw [show (fun i => w 0 * cL (csS c 14 0 15 l n T) 11 i 6 + w 0 * cL (csS c 14 0 15 l n T) 11 i 7 + w 1 * cL (csS c 14 0 15 l n T) 11 i 8) = fun i => w 0 * cL c 11 i 6 + w 0 * cL c 11 i 7 + w 1 * cL c 11 i 8 from rfl, show (fun s => w 1 * cL (csS c 14 0 15 l n T) 10 s 14 + w 2 * cL (csS c 14 0 15 l n T) 13 s 18 + w 3 * cL (csS c 14 0 15 l n T) 13 s 7) = fun s => w 1 * cL c 10 s 14 + w 2 * cL c 13 s 18 + w 3 * cL c 13 s 7 from rfl, show cL (csS c 14 0 15 l n T) 4 0 2 = cL c 4 0 2 from rfl, show cL (csS c 14 0 15 l n T) 4 0 3 = cL c 4 0 3 from rfl, show cL (csS c 14 0 15 l n T) 14 0 15 = n from rfl, show cL (csS c 14 0 15 l n T) 14 0 16 = cL c 14 0 16 from rfl]
    omega
  · rw [show (fun i => w 0 * cL (csS c 14 0 16 l n T) 11 i 6 + w 0 * cL (csS c 14 0 16 l n T) 11 i 7 + w 1 * cL (csS c 14 0 16 l n T) 11 i 8) = fun i => w 0 * cL c 11 i 6 + w 0 * cL c 11 i 7 + w 1 * cL c 11 i 8 from rfl, show (fun s => w 1 * cL (csS c 14 0 16 l n T) 10 s 14 + w 2 * cL (csS c 14 0 16 l n T) 13 s 18 + w 3 * cL (csS c 14 0 16 l n T) 13 s 7) = fun s => w 1 * cL c 10 s 14 + w 2 * cL c 13 s 18 + w 3 * cL c 13 s 7 from rfl, show cL (csS c 14 0 16 l n T) 4 0 2 = cL c 4 0 2 from rfl, show cL (csS c 14 0 16 l n T) 4 0 3 = cL c 4 0 3 from rfl, show cL (csS c 14 0 16 l n T) 14 0 16 = n from rfl, show cL (csS c 14 0 16 l n T) 14 0 15 = cL c 14 0 15 from rfl]
    omega
  · have h := sumN_upd (f := fun s => w 1 * cL (csS c 13 i 7 l n T) 10 s 14 + w 2 * cL (csS c 13 i 7 l n T) 13 s 18 + w 3 * cL (csS c 13 i 7 l n T) 13 s 7) (g := fun s => w 1 * cL c 10 s 14 + w 2 * cL c 13 s 18 + w 3 * cL c 13 s 7) 7 hi (fun j _ hne => by
      have e1 : cL (csS c 13 i 7 l n T) 13 j 7 = cL c 13 j 7 := if_neg (fun z => hne z.2.1)
      have e2 : cL (csS c 13 i 7 l n T) 13 j 18 = cL c 13 j 18 := if_neg (fun z => by omega)
      have e3 : cL (csS c 13 i 7 l n T) 10 j 14 = cL c 10 j 14 := rfl
      rw [e1, e2, e3])
    have e1 : cL (csS c 13 i 7 l n T) 13 i 7 = n := if_pos ⟨rfl, rfl, rfl⟩
    have e2 : cL (csS c 13 i 7 l n T) 13 i 18 = cL c 13 i 18 := if_neg (fun z => by omega)
    have e3 : cL (csS c 13 i 7 l n T) 10 i 14 = cL c 10 i 14 := rfl
    simp only [e1, e2, e3] at h
    rw [show (fun j => w 0 * cL (csS c 13 i 7 l n T) 11 j 6 + w 0 * cL (csS c 13 i 7 l n T) 11 j 7 + w 1 * cL (csS c 13 i 7 l n T) 11 j 8) = fun i => w 0 * cL c 11 i 6 + w 0 * cL c 11 i 7 + w 1 * cL c 11 i 8 from rfl, show cL (csS c 13 i 7 l n T) 4 0 2 = cL c 4 0 2 from rfl, show cL (csS c 13 i 7 l n T) 4 0 3 = cL c 4 0 3 from rfl, show cL (csS c 13 i 7 l n T) 14 0 15 = cL c 14 0 15 from rfl, show cL (csS c 13 i 7 l n T) 14 0 16 = cL c 14 0 16 from rfl]
    omega
theorem KCap_S {c : CS} {cl i f n : Nat} {l : List Nat} {T : Nat × Nat} (hp : lsP cl i f) (hn : lC n) (h : KCap c) : KCap (csS c cl i f l n T) := by
  obtain ⟨h1, h2, h3, h4, h5, h6⟩ := h
  have e : ∀ a b x, cL (csS c cl i f l n T) a b x = if a = cl ∧ b = i ∧ x = f then n else cL c a b x := fun _ _ _ => rfl
  rcases hp with ⟨rfl, rfl, rfl⟩ | ⟨rfl, rfl, rfl⟩ | ⟨rfl, hi, rfl⟩
  · exact ⟨h1, h2, h3, h4, hn, h6⟩
  · exact ⟨h1, h2, h3, h4, h5, hn⟩
  · refine ⟨h1, fun s hs => ?_, h3, h4, h5, h6⟩
    obtain ⟨x1, x2, x3⟩ := h2 s hs
    refine ⟨x1, by rw [e, if_neg (by omega)]; exact x2, ?_⟩
    rw [e]
    split
    · exact hn
    · exact x3
/-- a list of letters is another one: there is room -/
theorem KRm_put {c : CS} {cl i f : Nat} {l : List Nat} {v v' : CV} (hp : lsP cl i f) (y : KRm c v) (hN : v'.2 = v.2) (hl : l.length + v'.1.1.length = (cS c cl i f).length + v.1.1.length) :
    ∃ n T, clput c cl i f l = some (csS c cl i f l n T) ∧ KRm (csS c cl i f l n T) v' ∧ (cT c).1 ≤ T.1 := by
  obtain ⟨y1, y2, y3, y4⟩ := id y
  have hc : lC (cL c cl i f) := by
    obtain ⟨h1, h2, h3, h4, h5, h6⟩ := y4
    rcases hp with ⟨rfl, rfl, rfl⟩ | ⟨rfl, rfl, rfl⟩ | ⟨rfl, hi, rfl⟩
    · exact h5
    · exact h6
    · exact (h2 i hi).2.2
  have hlen : (cS c cl i f).length ≤ 360 := by
    have := nL_S (c := c) (n := 0) (l := []) (T := (0, 0)) (H := v.1.1) hp
    rw [List.length_nil] at this
    omega
  have hm : ∀ n T, nL (csS c cl i f l n T) v'.1.1 = nL c v.1.1 := by
    intro n T
    have h1 := nL_S (c := c) (n := n) (l := l) (T := T) (H := v.1.1) hp
    have h2 : nL (csS c cl i f l n T) v'.1.1 + v.1.1.length = nL (csS c cl i f l n T) v.1.1 + v'.1.1.length := by
      unfold nL
      omega
    omega
  rcases clput_e (l := l) (show cL c cl i f ≤ 100000 by have := hc.2; omega) with ⟨q1, q2⟩ | ⟨q1, q2⟩
  · refine ⟨_, _, q2, ⟨?_, ?_, by rw [hm]; exact y3, KCap_S hp hc y4⟩, Nat.le_refl _⟩
    · have := gA_S (c := c) (n := cL c cl i f) (l := l) (T := cT c) (w := gw1) hp
      rw [hm, hN, csS_T]
      omega
    · have := gA_S (c := c) (n := cL c cl i f) (l := l) (T := cT c) (w := gw2) hp
      rw [hm, hN, csS_T]
      omega
  · have hb : lC (clcap (cL c cl i f)) ∧ cL c cl i f + 4 ≤ clcap (cL c cl i f) ∧ 4 * cL c cl i f + clcap (cL c cl i f) ≤ 4 * clcap (cL c cl i f) := by
      have h2 := hc.1
      unfold clcap lC
      split
      · omega
      · split <;> omega
    obtain ⟨b1, b2, b3⟩ := hb
    refine ⟨_, _, q2, ⟨?_, ?_, by rw [hm]; exact y3, KCap_S hp b1 y4⟩, Nat.le_succ _⟩
    · have h := gA_S (c := c) (n := clcap (cL c cl i f)) (l := l) (T := ((cT c).1 + 1, (cT c).2 + clcap (cL c cl i f))) (w := gw1) hp
      have e : gw1 3 = 4 := rfl
      rw [e] at h
      rw [hm, hN]
      show 16 * ((cT c).1 + 1) ≤ _
      omega
    · have h := gA_S (c := c) (n := clcap (cL c cl i f)) (l := l) (T := ((cT c).1 + 1, (cT c).2 + clcap (cL c cl i f))) (w := gw2) hp
      have e : gw2 3 = 4 := rfl
      rw [e] at h
      rw [hm, hN]
      show (cT c).2 + clcap (cL c cl i f) ≤ _
      omega
/-- the letters' comp behind a change of lists: only one list is another one -/
theorem KLt_S {c : CS} {a a' : AA} {H H' : List (Nat × Option AL)} {cl i f n : Nat} {l : List Nat} {T : Nat × Nat} (hp : lsP cl i f) (y : KLt c a H) (hT : (cT c).1 ≤ T.1) (hc : ∀ x, l.count x + (H'.map Prod.fst).count x ≤ (cS c cl i f).count x + (H.map Prod.fst).count x)
    (hw : F2 (LRp c) (cS (csS c cl i f l n T) 14 0 15) (aWay a')) (hw2 : (aWay a').Pairwise (fun x y => x.1 ≤ y.1)) (hwl : (cS (csS c cl i f l n T) 14 0 15).length ≤ 128) (ht : ∀ s, s < 7 → F2 (LR c) (cS (csS c cl i f l n T) 13 s 7) (aWt a' s) ∧ (cS (csS c cl i f l n T) 13 s 7).length ≤ 32) (hH : ∀ x ∈ H', ∀ l, x.2 = some l → LR c x.1 l) : KLt (csS c cl i f l n T) a' H' := by
  have h8 : ∀ b x, Sm c (csS c cl i f l n T) 8 b x := by
    intro b x
    refine csS_8 ?_
    rcases hp with ⟨rfl, _⟩ | ⟨rfl, _⟩ | ⟨rfl, _⟩ <;> decide
  have hn : ∀ x, nC (csS c cl i f l n T) H' x ≤ nC c H x := by
    intro x
    have h1 := nC_S (c := c) (n := n) (l := l) (T := T) (H := H) hp x
    have h2 := hc x
    have h3 : nC (csS c cl i f l n T) H' x + (H.map Prod.fst).count x = nC (csS c cl i f l n T) H x + (H'.map Prod.fst).count x := by
      unfold nC
      omega
    omega
  refine ⟨fun x => ⟨Nat.le_trans (hn x) (y.1 x).1, fun z => Nat.lt_of_lt_of_le ((y.1 x).2 (Nat.lt_of_lt_of_le z (hn x))) hT⟩, F2_mono (fun x _ p hp' => LRp_fr (fun f _ => h8 x f) hp') hw, fun s hs => F2_mono (fun x _ p hp' => LR_fr (fun f _ => h8 x f) hp') (ht s hs).1, fun x hx l hl => LR_fr (fun f _ => h8 x.1 f) (hH x hx l hl), hwl, fun s hs => (ht s hs).2, hw2⟩
theorem cnt_H {ad x : Nat} {o : Option AL} {H : List (Nat × Option AL)} : (((ad, o) :: H).map Prod.fst).count x = (H.map Prod.fst).count x + if ad = x then 1 else 0 := by
  rw [List.map_cons, List.count_cons]
  by_cases q : ad = x
  · rw [if_pos (by simp [q]), if_pos q]
  · rw [if_neg (by simp [q]), if_neg q]
theorem cnt_1 {ad x : Nat} {l : List Nat} : (l ++ [ad]).count x = l.count x + if ad = x then 1 else 0 := by
  rw [List.count_append, List.count_singleton]
  by_cases q : ad = x
  · rw [if_pos (by simp [q]), if_pos q]
  · rw [if_neg (by simp [q]), if_neg q]
theorem hdH {ad : Nat} {o : Option AL} {H : List (Nat × Option AL)} {c : CS} (h : ∀ x ∈ (ad, o) :: H, ∀ l, x.2 = some l → LR c x.1 l) : ∀ x ∈ H, ∀ l, x.2 = some l → LR c x.1 l := fun x hx => h x (List.mem_cons_of_mem _ hx)
/-- a letter in the hand becomes a spare one -/
theorem K_spare {c : CS} {a : AA} {ad : Nat} {o : Option AL} {H : List (Nat × Option AL)} {U : Nat → Int32} {N : Nat × Nat} (h : RC c a (((ad, o) :: H, U), N)) : WP (cladd c 14 0 16 ad) (fun c' => RC c' a ((H, U), N)) := by
  have hp : lsP 14 0 16 := Or.inr (Or.inl ⟨rfl, rfl, rfl⟩)
  obtain ⟨n, T, e, hr, hT⟩ := KRm_put (l := cS c 14 0 16 ++ [ad]) (v' := ((H, U), N)) hp h.2.2.2.2.2.2.2.2.2.2.2.2.2.2.2.2.2.2.2.2.1 rfl (by rw [List.length_append, List.length_singleton]; show _ + H.length = _ + (H.length + 1); omega)
  unfold cladd
  refine ⟨_, e, ?_⟩
  have hF : Ck [32 * 14 + 16] 0 c (csS c 14 0 16 (cS c 14 0 16 ++ [ad]) n T) := Ck_S (Or.inl rfl)
  have hl := h.2.2.2.2.2.2.2.2.2.2.2.2.2.2.2.2.2.2.2.1
  have hl2 : KLt (csS c 14 0 16 (cS c 14 0 16 ++ [ad]) n T) a H := KLt_S hp hl hT (fun x => by rw [cnt_1, cnt_H]; omega) hl.2.1 hl.2.2.2.2.2.2 hl.2.2.2.2.1 (fun s hs => ⟨hl.2.2.1 s hs, hl.2.2.2.2.2.1 s hs⟩) (hdH hl.2.2.2.1)
  exact ⟨KSc_fr hF (by decide) h.1, fun s hs hu => KFr_fr hF (by decide) (h.2.1 s hs hu), fun s hs => KHd_fr hF (by decide) (h.2.2.1 s hs), fun s hs hr => KLd_fr hF (by decide) (h.2.2.2.1 s hs hr), fun s hs hu => KRq_fr hF (by decide) (h.2.2.2.2.1 s hs hu), KBl_fr hF (by decide) h.2.2.2.2.2.1, KDa_fr hF (by decide) h.2.2.2.2.2.2.1, fun s hs => KLw_fr hF (by decide) (h.2.2.2.2.2.2.2.1 s hs), fun s hs => KG_fr hF (by decide) (h.2.2.2.2.2.2.2.2.1 s hs), fun s hs => KPg_fr hF (by decide) (h.2.2.2.2.2.2.2.2.2.1 s hs), fun s hs => KCh_fr hF (by decide) (h.2.2.2.2.2.2.2.2.2.2.1 s hs), fun s hs => KMc_fr hF (by decide) (h.2.2.2.2.2.2.2.2.2.2.2.1 s hs), fun s hs => KPc_fr hF (by decide) (h.2.2.2.2.2.2.2.2.2.2.2.2.1 s hs), fun k hk => KCl_fr hF (by decide) (h.2.2.2.2.2.2.2.2.2.2.2.2.2.1 k hk), fun k hk => KDn_fr hF (by decide) (h.2.2.2.2.2.2.2.2.2.2.2.2.2.2.1 k hk), KAk_fr hF (by decide) h.2.2.2.2.2.2.2.2.2.2.2.2.2.2.2.1, KFc_fr hF (by decide) h.2.2.2.2.2.2.2.2.2.2.2.2.2.2.2.2.1, fun s hs => KId_fr hF (by decide) (h.2.2.2.2.2.2.2.2.2.2.2.2.2.2.2.2.2.1 s hs), fun k hk => KIc_fr hF (by decide) (h.2.2.2.2.2.2.2.2.2.2.2.2.2.2.2.2.2.2.1 k hk), hl2, hr, h.2.2.2.2.2.2.2.2.2.2.2.2.2.2.2.2.2.2.2.2.2.1, h.2.2.2.2.2.2.2.2.2.2.2.2.2.2.2.2.2.2.2.2.2.2⟩
theorem K_lose {c : CS} {a : AA} {ad : Nat} {o : Option AL} {H : List (Nat × Option AL)} {U : Nat → Int32} {N : Nat × Nat} (h : RC c a (((ad, o) :: H, U), N)) : WP (k_World_lose c 0 ad) (fun c' => RC c' (aAdd a 22 0 1) ((H, U), N)) := by
  unfold k_World_lose k_World_lose_b0
  refine WP_b ?_
  rw [K_r h (F := 22) (cl := 14) (f := 4) (by decide) (by decide)]
  exact WP_call (K_spare (RC_I h (by decide) (by decide))) (fun c' h' => WP_some h')
/-! a letter is taken -/
theorem KRm_rem {c : CS} {cl i f : Nat} {l : List Nat} {v v' : CV} (hp : lsP cl i f) (y : KRm c v) (hN : v'.2 = v.2) (hl : l.length + v'.1.1.length = (cS c cl i f).length + v.1.1.length) : KRm (csS c cl i f l (cL c cl i f) (cT c)) v' := by
  obtain ⟨y1, y2, y3, y4⟩ := id y
  have hc : lC (cL c cl i f) := by
    obtain ⟨h1, h2, h3, h4, h5, h6⟩ := y4
    rcases hp with ⟨rfl, rfl, rfl⟩ | ⟨rfl, rfl, rfl⟩ | ⟨rfl, hi, rfl⟩
    · exact h5
    · exact h6
    · exact (h2 i hi).2.2
  have hm : nL (csS c cl i f l (cL c cl i f) (cT c)) v'.1.1 = nL c v.1.1 := by
    have h1 := nL_S (c := c) (n := cL c cl i f) (l := l) (T := cT c) (H := v.1.1) hp
    have h2 : nL (csS c cl i f l (cL c cl i f) (cT c)) v'.1.1 + v.1.1.length = nL (csS c cl i f l (cL c cl i f) (cT c)) v.1.1 + v'.1.1.length := by
      unfold nL
      omega
    omega
  refine ⟨?_, ?_, by rw [hm]; exact y3, KCap_S hp hc y4⟩
  · have := gA_S (c := c) (n := cL c cl i f) (l := l) (T := cT c) (w := gw1) hp
    rw [hm, hN, csS_T]
    omega
  · have := gA_S (c := c) (n := cL c cl i f) (l := l) (T := cT c) (w := gw2) hp
    rw [hm, hN, csS_T]
    omega
theorem cnt_er {l : List Nat} {i ad x : Nat} (h : l[i]? = some ad) : (l.eraseIdx i).count x + (if ad = x then 1 else 0) = l.count x := by
  induction l generalizing i with
  | nil => simp at h
  | cons y l ih =>
    cases i with
    | zero =>
      simp only [List.getElem?_cons_zero, Option.some.injEq] at h
      subst h
      rw [List.eraseIdx_cons_zero, List.count_cons]
      by_cases q : y = x
      · rw [if_pos q, if_pos (by simp [q])]
      · rw [if_neg q, if_neg (by simp [q])]
    | succ i =>
      simp only [List.getElem?_cons_succ] at h
      have := ih h
      rw [List.eraseIdx_cons_succ, List.count_cons, List.count_cons]
      omega
theorem clget_n {c : CS} {cl i f n ad : Nat} {j : Int32} (hj : j = Int32.ofNat n) (hb : n < 2147483648) (h : (cS c cl i f)[n]? = some ad) : clget c cl i f j = some ad := by
  subst hj
  unfold clget
  rw [i_cl hb, if_neg (i_nn hb)]
  exact h
theorem clrem_n {c : CS} {cl i f n ad : Nat} {j : Int32} (hj : j = Int32.ofNat n) (hb : n < 2147483648) (h : (cS c cl i f)[n]? = some ad) : clrem c cl i f j = some (ad, csS c cl i f ((cS c cl i f).eraseIdx n) (cL c cl i f) (cT c)) := by
  unfold clrem
  rw [clget_n hj hb h]
  subst hj
  rw [i_cl hb]
  rfl
theorem len_er {l : List Nat} {i ad : Nat} (h : l[i]? = some ad) : (l.eraseIdx i).length + 1 = l.length := by
  have hi : i < l.length := by
    rcases Nat.lt_or_ge i l.length with q | q
    · exact q
    · rw [List.getElem?_eq_none q] at h
      cases h
  rw [List.length_eraseIdx, if_pos hi]
  omega
/-- a spare letter is taken -/
theorem K_take16 {c : CS} {a : AA} {n ad : Nat} {H : List (Nat × Option AL)} {U : Nat → Int32} {N : Nat × Nat} (h : RC c a ((H, U), N)) (hg : (cS c 14 0 16)[n]? = some ad) : RC (csS c 14 0 16 ((cS c 14 0 16).eraseIdx n) (cL c 14 0 16) (cT c)) a (((ad, none) :: H, U), N) := by
  have hp : lsP 14 0 16 := Or.inr (Or.inl ⟨rfl, rfl, rfl⟩)
  have hr := KRm_rem (l := (cS c 14 0 16).eraseIdx n) (v' := (((ad, none) :: H, U), N)) hp h.2.2.2.2.2.2.2.2.2.2.2.2.2.2.2.2.2.2.2.2.1 rfl (by have := len_er hg; show _ + (H.length + 1) = _ + H.length; omega)
  have hF : Ck [32 * 14 + 16] 0 c (csS c 14 0 16 ((cS c 14 0 16).eraseIdx n) (cL c 14 0 16) (cT c)) := Ck_S (Or.inl rfl)
  have hl : KLt c a H := h.2.2.2.2.2.2.2.2.2.2.2.2.2.2.2.2.2.2.2.1
  have hl2 : KLt (csS c 14 0 16 ((cS c 14 0 16).eraseIdx n) (cL c 14 0 16) (cT c)) a ((ad, none) :: H) := KLt_S hp hl (Nat.le_refl _) (fun x => by have := cnt_er (x := x) hg; rw [cnt_H]; omega) hl.2.1 hl.2.2.2.2.2.2 hl.2.2.2.2.1 (fun s hs => ⟨hl.2.2.1 s hs, hl.2.2.2.2.2.1 s hs⟩) (fun x hx l hl' => by
    rcases List.mem_cons.mp hx with rfl | hx
    · cases hl'
    · exact hl.2.2.2.1 x hx l hl')
  exact ⟨KSc_fr hF (by decide) h.1, fun s hs hu => KFr_fr hF (by decide) (h.2.1 s hs hu), fun s hs => KHd_fr hF (by decide) (h.2.2.1 s hs), fun s hs hr => KLd_fr hF (by decide) (h.2.2.2.1 s hs hr), fun s hs hu => KRq_fr hF (by decide) (h.2.2.2.2.1 s hs hu), KBl_fr hF (by decide) h.2.2.2.2.2.1, KDa_fr hF (by decide) h.2.2.2.2.2.2.1, fun s hs => KLw_fr hF (by decide) (h.2.2.2.2.2.2.2.1 s hs), fun s hs => KG_fr hF (by decide) (h.2.2.2.2.2.2.2.2.1 s hs), fun s hs => KPg_fr hF (by decide) (h.2.2.2.2.2.2.2.2.2.1 s hs), fun s hs => KCh_fr hF (by decide) (h.2.2.2.2.2.2.2.2.2.2.1 s hs), fun s hs => KMc_fr hF (by decide) (h.2.2.2.2.2.2.2.2.2.2.2.1 s hs), fun s hs => KPc_fr hF (by decide) (h.2.2.2.2.2.2.2.2.2.2.2.2.1 s hs), fun k hk => KCl_fr hF (by decide) (h.2.2.2.2.2.2.2.2.2.2.2.2.2.1 k hk), fun k hk => KDn_fr hF (by decide) (h.2.2.2.2.2.2.2.2.2.2.2.2.2.2.1 k hk), KAk_fr hF (by decide) h.2.2.2.2.2.2.2.2.2.2.2.2.2.2.2.1, KFc_fr hF (by decide) h.2.2.2.2.2.2.2.2.2.2.2.2.2.2.2.2.1, fun s hs => KId_fr hF (by decide) (h.2.2.2.2.2.2.2.2.2.2.2.2.2.2.2.2.2.1 s hs), fun k hk => KIc_fr hF (by decide) (h.2.2.2.2.2.2.2.2.2.2.2.2.2.2.2.2.2.2.1 k hk), hl2, hr, h.2.2.2.2.2.2.2.2.2.2.2.2.2.2.2.2.2.2.2.2.2.1, h.2.2.2.2.2.2.2.2.2.2.2.2.2.2.2.2.2.2.2.2.2.2⟩
