/-! what holds besides, behind a cut down log -/
theorem EX_move {a : AA} {s : Nat} {n t c : Int32} (x : EX a s) (hc : cdOK c) : EX (aMoveBase a s n t c) s := by
  have fr := @AFr_moveBase a s n t c
  have e : ∀ f, f ∈ [151, 73, 76, 65, 87, 91, 92, 80] → ∀ i, aS (aMoveBase a s n t c) f i = aS a f i := fun f hf i => fr.1 f (by revert f; decide) i
  have e58 : aS (aMoveBase a s n t c) 58 s = c := by
    unfold aMoveBase
    dsimp only
    exact (aS_If (by decide)).trans ((aS_If (by decide)).trans (if_pos ⟨rfl, rfl⟩))
  have el : ∀ y ∈ aLg (aMoveBase a s n t c) s, y ∈ aLg a s := by
    intro y hy
    have e1 : aLg (aMoveBase a s n t c) s = if (aHas a s n && decide (aTermAt a s n = t)) = true then (aLg a s).drop (n - aBase a s).toNatClampNeg else [] := by
      unfold aMoveBase
      dsimp only
      exact if_pos rfl
    rw [e1] at hy
    split at hy
    · exact List.mem_of_mem_drop hy
    · exact absurd hy List.not_mem_nil
  have er : aRq (aMoveBase a s n t c) = aRq a := fr.2.2.2.2.2.2.2.2.2.2.1 (by decide)
  have ek : aAk (aMoveBase a s n t c) = aAk a := fr.2.2.2.2.2.2.2.2.2.2.2.1 (by decide)
  have em : aMc (aMoveBase a s n t c) = aMc a := fr.2.2.2.2.1 (by decide)
  generalize aMoveBase a s n t c = X at e e58 el er ek em
  obtain ⟨x1, x2, x3, x4, x5, x6, x7, x8, x9, x10, x11⟩ := x
  refine ⟨by rw [e 151 (by decide)]; exact x1, ?_, ?_, ?_, by rw [em]; exact x5, by rw [em, e 76 (by decide)]; exact x6, fun y hy => x7 y (el y hy), by rw [e58]; exact hc, by rw [e 65 (by decide)]; exact x9, ?_, by rw [e 80 (by decide)]; exact x11⟩
  · unfold dRq at x2 ⊢
    rw [er]
    exact x2
  · intro hr
    rw [e 73 (by decide)] at hr
    rw [er]
    exact x3 hr
  · rw [er, ek]
    exact x4
  · intro hr p hp
    rw [e 73 (by decide)] at hr
    rw [e 87 (by decide), e 91 (by decide), e 92 (by decide)]
    exact x10 hr p hp
theorem EX_off0 {a : AA} {s : Nat} (x : EX a s) : ∀ n, EX (aOff0 a s n) s := by
  intro n
  induction n with
  | zero => exact x
  | succ n ih =>
    unfold aOff0
    exact EX_I ih (by decide)
theorem EX_compact {a : AA} {s : Nat} (x : EX a s) : EX (A_compact a s) s := by
  have hc : ∀ k : Nat, cdOK (aMemC (aS a 58 s) ((aLg a s).take k)) := fun k => memC_ok _ _ x.2.2.2.2.2.2.2.1 (fun e he => (x.2.2.2.2.2.2.1 e (List.mem_of_mem_take he)).2)
  unfold A_compact
  dsimp only
  refine EX_off0 (EX_fr AFr_soil (by decide) (by decide) (by decide) (by decide) (by decide) (EX_find (EX_fr AFr_trim (by decide) (by decide) (by decide) (by decide) (by decide) (EX_fr AFr_writeShot (by decide) (by decide) (by decide) (by decide) (by decide) (EX_fr AFr_sh (by decide) (by decide) (by decide) (by decide) (by decide) (EX_I (EX_move x (hc _)) (by decide))))))) 7
/-- what holds besides, behind what is agreed -/
theorem EX_apply {F : Nat} {c : CS} {a : AA} {s : Nat} {H : List (Nat × Option AL)} {U : Nat → Int32} {N : Nat × Nat} (hF : 400 ≤ F) (h : RC c a ((H, U), N)) (hs : s < 7) (hu : aS a 52 s = 1) (w : WLg a s) (mk : WMk a s) (x : EX a s) (hK : ∀ k ∈ aAk a, wfK k) (hE : ∀ e ∈ aLg a s, wfE (aAk a) e) (hH : H.length ≤ 5) : EX (A_apply a s) s := by
  obtain ⟨c1, _, _, x1, _⟩ := K_applyX hF h hs hu w mk x hK hE hH
  have x2 := EX_reads x1
  have eA : A_apply a s = if 24 ≤ aS (A_answerReads (aApplyN s 300 a) s) 76 s - aBase (A_answerReads (aApplyN s 300 a) s) s then A_compact (A_answerReads (aApplyN s 300 a) s) s else A_answerReads (aApplyN s 300 a) s := rfl
  rw [eA]
  split
  · exact EX_compact x2
  · exact x2
