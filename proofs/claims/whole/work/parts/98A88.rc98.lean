/-! what a path leaves as it was; the letters it sends -/
/-- numbers that a server's path may change -/
def tch (s f i : Nat) : Prop := f = 2 ∨ f = 21 ∨ f = 22 ∨ ((f ∈ sF ∨ f = 29 ∨ f = 30 ∨ f = 31 ∨ f = 32 ∨ f = 71) ∧ i = s) ∨ (f ∈ sc49 ∧ ∃ p, p < 7 ∧ i = 7 * s + p) ∨ (f = 43 ∧ ∃ g, g < 16 ∧ i = 16 * s + g)
def Oth (s : Nat) (a b : AA) : Prop := ∀ i, i ≠ s → aWt b i = aWt a i ∧ aLg b i = aLg a i ∧ aMc b i = aMc a i ∧ aSh b i = aSh a i ∧ aPm b i = aPm a i ∧ aFc b i = aFc a i ∧ aFk b i = aFk a i ∧ aCh b i = aCh a i ∧ aRq b i = aRq a i
def On (s : Nat) (a b : AA) : Prop := (∀ f i, ¬ tch s f i → aS b f i = aS a f i) ∧ Oth s a b ∧ aAk b = aAk a ∧ aTp b = aTp a ∧ aRe b = aRe a ∧ aDn b = aDn a ∧ ∀ i, i ≠ s → b.1.2 84 i = a.1.2 84 i
theorem aU_n {α : Type} {w : Nat → α} {s i : Nat} {v : α} (h : i ≠ s) : aU w s v i = w i := if_neg h
section ON0
variable {s k : Nat} {P : AL → Prop} {a b : AA}
theorem Oth_r : Oth s a a := fun i _ => ⟨rfl, rfl, rfl, rfl, rfl, rfl, rfl, rfl, rfl⟩
theorem On_r : On s a a := ⟨fun f i _ => rfl, Oth_r, rfl, rfl, rfl, rfl, fun i _ => rfl⟩
theorem On_t {c : AA} (h : On s a b) (h' : On s b c) : On s a c := by
  obtain ⟨h1, h2, h3, h4, h5, h6, h7⟩ := h
  obtain ⟨k1, k2, k3, k4, k5, k6, k7⟩ := h'
  refine ⟨fun f i z => (k1 f i z).trans (h1 f i z), fun i hi => ?_, k3.trans h3, k4.trans h4, k5.trans h5, k6.trans h6, fun i hi => (k7 i hi).trans (h7 i hi)⟩
  obtain ⟨p1, p2, p3, p4, p5, p6, p7, p8, p9⟩ := h2 i hi
  obtain ⟨q1, q2, q3, q4, q5, q6, q7, q8, q9⟩ := k2 i hi
  exact ⟨q1.trans p1, q2.trans p2, q3.trans p3, q4.trans p4, q5.trans p5, q6.trans p6, q7.trans p7, q8.trans p8, q9.trans p9⟩
theorem On_I {f j : Nat} {v : Int32} (h : tch s f j) : On s a (aI a f j v) := ⟨fun g i z => if_neg (fun y => z (by rw [y.1, y.2]; exact h)), Oth_r, rfl, rfl, rfl, rfl, fun i _ => rfl⟩
theorem On_X {x : AX} (h : Oth s a (a.1, x)) (h2 : aAk (a.1, x) = aAk a ∧ aTp (a.1, x) = aTp a ∧ aRe (a.1, x) = aRe a ∧ aDn (a.1, x) = aDn a) : On s a (a.1, x) := ⟨fun _ _ _ => rfl, h, h2.1, h2.2.1, h2.2.2.1, h2.2.2.2, fun _ _ => rfl⟩
theorem On_alarm {u : Int32} : On s a (A_alarm a s u) := by
  unfold A_alarm aAdd
  exact On_t (On_t (On_I (Or.inr (Or.inr (Or.inr (Or.inl ⟨Or.inr (Or.inr (Or.inl rfl)), rfl⟩))))) (On_I (Or.inr (Or.inr (Or.inr (Or.inl ⟨Or.inr (Or.inl rfl), rfl⟩)))))) (On_I (Or.inl rfl))
theorem On_soil : On s a (aSoil a s) := by
  unfold aSoil aAdd
  split
  · exact On_t (On_t (On_t (On_I (Or.inr (Or.inr (Or.inr (Or.inl ⟨Or.inr (Or.inr (Or.inr (Or.inr (Or.inr rfl)))), rfl⟩))))) (On_I (Or.inr (Or.inr (Or.inr (Or.inl ⟨Or.inr (Or.inr (Or.inr (Or.inr (Or.inl rfl)))), rfl⟩)))))) (On_I (Or.inr (Or.inr (Or.inr (Or.inl ⟨Or.inr (Or.inr (Or.inr (Or.inl rfl))), rfl⟩)))))) (On_I (Or.inl rfl))
  · exact On_r
theorem fly84 {l : AL} {u : Int32} : (A_fly a l u).1.2 = a.1.2 := by
  unfold A_fly
  split <;> rfl
theorem dr84 {m : Int32} {i : Nat} : (A_draw a m).2.1.2 84 i = a.1.2 84 i := setL_f (σ := a.1) (f := 28) (by decide)
theorem out84 {l : AL} {i : Nat} : (A_sendOut a l).1.2 84 i = a.1.2 84 i := by
  unfold A_sendOut
  dsimp only
  split
  · rfl
  · split
    · rw [fly84]
    · split
      · show (A_draw a 1000).2.1.2 84 i = _
        exact dr84 (m := 1000)
      · split
        · rw [fly84, dr84, fly84, dr84, dr84, dr84]
        · rw [fly84, dr84, dr84, dr84]
theorem On_out {l : AL} : On s a (A_sendOut a l) := by
  have h := AFr_sendOut (a := a) (l := l)
  obtain ⟨h0, h1, h2, h3, h4, h5, h6, h7, h8, h9, h10, h11, h12, h13, h14⟩ := h
  have e2 := h2 (by decide)
  have e3 := h3 (by decide)
  have e4 := h4 (by decide)
  have e5 := h5 (by decide)
  have e6 := h6 (by decide)
  have e7 := h7 (by decide)
  have e8 := h8 (by decide)
  have e9 := h9 (by decide)
  have e10 := h10 (by decide)
  refine ⟨fun f i z => h0 f (fun y => z ?_) i, fun i _ => ⟨by rw [e2], by rw [e3], by rw [e4], by rw [e5], by rw [e6], by rw [e7], by rw [e8], by rw [e9], by rw [e10]⟩, h11 (by decide), h12 (by decide), h13 (by decide), h14 (by decide), fun i _ => out84⟩
  simp only [List.mem_cons, List.not_mem_nil, or_false] at y
  rcases y with y | y | y
  · exact Or.inl y
  · exact Or.inr (Or.inl y)
  · exact Or.inr (Or.inr (Or.inl y))
theorem Pa_On (h : Pa s P k a b) : On s a b := by
  refine h (fun _ a b => On s a b) ⟨On_r, fun h1 h2 => On_t h1 h2, fun h1 _ => h1, fun hf _ => On_I (Or.inr (Or.inr (Or.inr (Or.inl ⟨Or.inl hf, rfl⟩)))), fun {a f p v} hf hp => On_I (Or.inr (Or.inr (Or.inr (Or.inr (Or.inl ⟨hf, p, hp, rfl⟩))))), fun {a f v} hf => On_I (Or.inr (Or.inr (Or.inr (Or.inr (Or.inr ⟨rfl, f, hf, rfl⟩))))), fun {a v} => ?_, ?_, ?_, ?_, ?_, ?_, ?_, fun _ => ?_, fun _ => ?_, fun _ => ?_, ?_, fun _ _ => On_alarm, On_soil, fun _ => On_I (Or.inr (Or.inr (Or.inr (Or.inl ⟨Or.inr (Or.inr (Or.inr (Or.inr (Or.inr rfl)))), rfl⟩)))), fun _ => On_out⟩
  · exact ⟨fun _ _ _ => rfl, Oth_r, rfl, rfl, rfl, rfl, fun i hi => if_neg (fun z => hi z.2)⟩
  · exact On_X (fun i hi => ⟨rfl, aU_n hi, rfl, rfl, rfl, rfl, rfl, rfl, rfl⟩) ⟨rfl, rfl, rfl, rfl⟩
  · exact On_X (fun i hi => ⟨rfl, rfl, aU_n hi, rfl, rfl, rfl, rfl, rfl, rfl⟩) ⟨rfl, rfl, rfl, rfl⟩
  · exact On_X (fun i hi => ⟨rfl, rfl, rfl, aU_n hi, rfl, rfl, rfl, rfl, rfl⟩) ⟨rfl, rfl, rfl, rfl⟩
  · exact On_X (fun i hi => ⟨rfl, rfl, rfl, rfl, aU_n hi, rfl, rfl, rfl, rfl⟩) ⟨rfl, rfl, rfl, rfl⟩
  · exact On_X (fun i hi => ⟨rfl, rfl, rfl, rfl, rfl, aU_n hi, rfl, rfl, rfl⟩) ⟨rfl, rfl, rfl, rfl⟩
  · exact On_X (fun i hi => ⟨rfl, rfl, rfl, rfl, rfl, rfl, aU_n hi, rfl, rfl⟩) ⟨rfl, rfl, rfl, rfl⟩
  · exact On_X (fun i hi => ⟨rfl, rfl, rfl, rfl, rfl, rfl, rfl, aU_n hi, rfl⟩) ⟨rfl, rfl, rfl, rfl⟩
  · exact On_X (fun i hi => ⟨rfl, rfl, rfl, rfl, rfl, rfl, rfl, rfl, aU_n hi⟩) ⟨rfl, rfl, rfl, rfl⟩
  · exact On_X (fun i hi => ⟨aU_n hi, rfl, rfl, rfl, rfl, rfl, rfl, rfl, rfl⟩) ⟨rfl, rfl, rfl, rfl⟩
  · exact On_X (fun i hi => ⟨aU_n hi, rfl, rfl, rfl, rfl, rfl, rfl, rfl, rfl⟩) ⟨rfl, rfl, rfl, rfl⟩
/-- another server keeps what a path keeps -/
theorem On_Ph {i : Nat} {Q : AL → Prop} (h : On s a b) (hi : i ≠ s) (z : Ph i Q a) : Ph i Q b := by
  obtain ⟨p1, p2, p3, p4, p5, p6, p7, p8, p9⟩ := h.2.1 i hi
  have e : ∀ f, f ∈ sF → aS b f i = aS a f i := fun f hf => h.1 f i (fun y => by
    rcases y with y | y | y | y | y | y
    · rw [y] at hf
      exact absurd hf (by decide)
    · rw [y] at hf
      exact absurd hf (by decide)
    · rw [y] at hf
      exact absurd hf (by decide)
    · exact hi y.2
    · exact absurd y.1 ((by decide : ∀ f ∈ sF, f ∉ sc49) f hf)
    · rw [y.1] at hf
      exact absurd hf (by decide))
  unfold Ph nRg at z ⊢
  rw [p8, p9, p1, e 45 (by decide), e 74 (by decide), e 80 (by decide)]
  exact z
/-! letters -/
theorem fly_way {l : AL} {u : Int32} {x : AP} (h : x ∈ aWay (A_fly a l u)) : x ∈ aWay a ∨ x.2.2 = l := by
  unfold A_fly at h
  split at h
  · exact Or.inl h
  · rcases ins_m (show x ∈ aIns (u, aS a 2 0, l) (aWay a) from h) with r | r
    · right
      rw [r]
    · exact Or.inl r
theorem out_way {l : AL} {x : AP} (h : x ∈ aWay (A_sendOut a l)) : x ∈ aWay a ∨ x.2.2 = l := by
  unfold A_sendOut at h
  dsimp only at h
  split at h
  · exact Or.inl h
  · split at h
    · exact fly_way h
    · split at h
      · exact Or.inl h
      · split at h
        · rcases fly_way h with r | r
          · exact fly_way (a := (A_draw (A_draw (A_draw a 1000).2 1000).2 (aS a 27 0 + 1)).2) (show x ∈ aWay (A_fly (A_draw (A_draw (A_draw a 1000).2 1000).2 (aS a 27 0 + 1)).2 l (aNow a + aS a 23 (16 * l.1 2 + l.1 3).toNatClampNeg + (A_draw (A_draw (A_draw a 1000).2 1000).2 (aS a 27 0 + 1)).1)) from r)
          · exact Or.inr r
        · exact fly_way (a := (A_draw (A_draw (A_draw a 1000).2 1000).2 (aS a 27 0 + 1)).2) h
theorem Pa_way (h : Pa s P k a b) : ∀ x ∈ aWay b, x ∈ aWay a ∨ P x.2.2 := by
  refine h (fun _ a b => ∀ x ∈ aWay b, x ∈ aWay a ∨ P x.2.2) ⟨fun x hx => Or.inl hx, fun h1 h2 x hx => (h2 x hx).elim (fun y => h1 x y) Or.inr, fun h1 _ => h1, fun _ _ x hx => Or.inl hx, fun _ _ x hx => Or.inl hx, fun _ x hx => Or.inl hx, fun x hx => Or.inl hx, fun x hx => Or.inl hx, fun x hx => Or.inl hx, fun x hx => Or.inl hx, fun x hx => Or.inl hx, fun x hx => Or.inl hx, fun x hx => Or.inl hx, fun _ x hx => Or.inl hx, fun _ x hx => Or.inl hx, fun _ x hx => Or.inl hx, fun x hx => Or.inl hx, fun _ _ x hx => Or.inl hx, fun {a} x hx => Or.inl ?_, fun _ x hx => Or.inl hx, fun {a l} hl x hx => ?_⟩
  · rw [AFr_soil.2.1 (by decide)] at hx
    exact hx
  · rcases out_way hx with r | r
    · exact Or.inl r
    · right
      rw [r]
      exact hl
end ON0
