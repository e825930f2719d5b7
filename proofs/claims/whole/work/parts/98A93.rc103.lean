/-! asking, falling -/
section FC2
variable {t B B' c d k s : Nat} {a b : AA}
theorem Wd_tp {v : List Int32} (w : Wd a) : Wd (aTpS a v) := w
theorem Wd_akA {q : AK} (w : Wd a) : Wd (aAkS a (aAk a ++ [q])) := by
  have hg : Kg (aAk a) (aAk a ++ [q]) := Kg_app
  have h3 : ∀ i, i < 8 → cF (aAkS a (aAk a ++ [q])) i := fun i hi => cF_fr (a := a) (b := aAkS a (aAk a ++ [q])) (fun _ _ => rfl) rfl hg.1 (w.2.2.1 i hi)
  exact ⟨w.1, fun x hx => lP_g (K := aAk a) (L := aAk a ++ [q]) hg (w.2.1 x hx), h3, w.2.2.2⟩
theorem Wd_busy {j : Int32} (w : Wd a) (hj : 0 ≤ j ∧ j.toNatClampNeg < (aAk a).length) : Wd (aI (aI a 137 k j) 124 k 1) := by
  have e0 : ∀ f, f ≠ 137 → f ≠ 124 → ∀ i, aS (aI (aI a 137 k j) 124 k 1) f i = aS a f i := fun f h1 h2 i => (aS_If h2).trans (aS_If h1)
  have e124 : ∀ i, aS (aI (aI a 137 k j) 124 k 1) 124 i = if i = k then 1 else aS a 124 i := by
    intro i
    by_cases z : i = k
    · rw [z, evI_e, if_pos rfl]
    · rw [evI_i z, if_neg z, aS_If (by decide)]
  have e137 : ∀ i, aS (aI (aI a 137 k j) 124 k 1) 137 i = if i = k then j else aS a 137 i := by
    intro i
    rw [aS_If (by decide)]
    by_cases z : i = k
    · rw [z, evI_e, if_pos rfl]
    · rw [evI_i z, if_neg z]
  refine ⟨fun s hs => Ph_fr (AFr_t AFr_I AFr_I) (by decide) (by decide) (w.1 s hs), w.2.1, fun i hi => ?_, by rw [e0 29 (by decide) (by decide)]; exact w.2.2.2⟩
  obtain ⟨z1, z2, z3, z4⟩ := w.2.2.1 i hi
  unfold cF
  rw [e0 125 (by decide) (by decide), e124, e137, e0 29 (by decide) (by decide)]
  by_cases z : i = k
  · rw [if_pos z, if_pos z]
    exact ⟨z1, Or.inr rfl, fun _ => hj, fun _ => rfl⟩
  · rw [if_neg z, if_neg z]
    exact ⟨z1, z2, z3, z4⟩
theorem EW_ask {x kind kk v : Int32} (h : Ev t B c d a) (w : Wd a) (hc : c + 1 + 200 < 2147483648) : Ev t B (c + 1) d (A_askFace a x kind kk v).1 ∧ Wd (A_askFace a x kind kk v).1 := by
  have h0 : Ev t B (c + 1) d (aTpS a []) := Ev_w (Nat.le_add_right _ _) hc (Nat.le_refl _) (show Ev t B c d (aTpS a []) from h)
  unfold A_askFace
  dsimp only
  by_cases q1 : (!aInR x 0 7) = true
  · rw [if_pos q1]
    exact ⟨h0, w⟩
  · rw [if_neg q1]
    split
    · exact ⟨h0, w⟩
    · split
      · exact ⟨h0, w⟩
      · rename_i q3
        have hx := inR_k q1
        rw [i_0, L_7] at hx
        have hk : x.toNatClampNeg < 8 := by
          show x.toInt.toNat < 8
          omega
        have hlen : (aAk a).length < 1024 := by
          by_cases z : 1024 ≤ (aAk a).length
          · exact absurd (Or.inr z) q3
          · omega
        generalize x.toNatClampNeg = i at hk ⊢
        have key : ∀ (q : AK) (o : Int32), Ev t B c d (aI (aI (aI (aI (aAdd (aAkS (aTpS a []) (aAk a ++ [q])) 141 0 1) 137 i (Int32.ofNat (aAk a).length)) 124 i 1) 129 i 0) 131 i o) ∧ Wd (aI (aI (aI (aI (aAdd (aAkS (aTpS a []) (aAk a ++ [q])) 141 0 1) 137 i (Int32.ofNat (aAk a).length)) 124 i 1) 129 i 0) 131 i o) ∧ aS (aI (aI (aI (aI (aAdd (aAkS (aTpS a []) (aAk a ++ [q])) 141 0 1) 137 i (Int32.ofNat (aAk a).length)) 124 i 1) 129 i 0) 131 i o) 124 i = 1 := by
          intro q o
          have w1 : Wd (aAkS (aTpS a []) (aAk a ++ [q])) := Wd_akA (a := aTpS a []) (Wd_tp w)
          have w2 : Wd (aAdd (aAkS (aTpS a []) (aAk a ++ [q])) 141 0 1) := Wd_nn (by decide) w1
          have el : (aAk (aAdd (aAkS (aTpS a []) (aAk a ++ [q])) 141 0 1)).length = (aAk a).length + 1 := List.length_append
          have hj : 0 ≤ Int32.ofNat (aAk a).length ∧ (Int32.ofNat (aAk a).length).toNatClampNeg < (aAk (aAdd (aAkS (aTpS a []) (aAk a ++ [q])) 141 0 1)).length := by
            rw [el, i_cl (by omega), Int32.le_iff_toInt_le, i_0, Int32.toInt_ofNat_of_lt (by omega)]
            omega
          refine ⟨Ev_nn (by decide) (Ev_nn (by decide) (Ev_nn (by decide) (Ev_nn (by decide) (Ev_nn (by decide) (show Ev t B c d (aAkS (aTpS a []) (aAk a ++ [q])) from h))))), Wd_nn (by decide) (Wd_nn (by decide) (Wd_busy w2 hj)), ?_⟩
          rw [aS_If (by decide), aS_If (by decide), evI_e]
        have fin : ∀ b, Ev t B c d b → Wd b → aS b 124 i = 1 → ∀ (p : Prop) [Decidable p], Ev t B (c + 1) d (A_demand (aAdd (if p then aAdd b 127 i 1 else b) 128 i 1) i) ∧ Wd (A_demand (aAdd (if p then aAdd b 127 i 1 else b) 128 i 1) i) := by
          intro b hb wb e1 p _
          by_cases z : p
          · rw [if_pos z]
            exact ⟨Ev_demand (Ev_nn (by decide) (Ev_nn (by decide) hb)) hk hc, Wd_demand (Wd_nn (by decide) (Wd_nn (by decide) wb)) hk ((aS_If (by decide)).trans ((aS_If (by decide)).trans e1))⟩
          · rw [if_neg z]
            exact ⟨Ev_demand (Ev_nn (by decide) hb) hk hc, Wd_demand (Wd_nn (by decide) wb) hk ((aS_If (by decide)).trans e1)⟩
        exact fin _ (key _ _).1 (key _ _).2.1 (key _ _).2.2 _
/-- a server goes down -/
theorem EW_down (h : Ev t B c d a) (w : Wd a) (hs : s < 7) : Ev t B c d (aDown a s) ∧ Wd (aDown a s) := by
  have p : Pa s (sL s) 0 (aI (aI (aI a 52 s 0) 29 s (-1)) 31 s (-1)) (aDown a s) := Pa_0 Pa.wt0 (Pa.rq (fun q hq => absurd hq List.not_mem_nil))
  have h1 : Ev t B c d (aI (aI (aI a 52 s 0) 29 s (-1)) 31 s (-1)) := Ev_quietS (Ev_quiet (Ev_nn (by decide) h) (by omega)) hs
  have w1 : Wd (aI (aI (aI a 52 s 0) 29 s (-1)) 31 s (-1)) := Wd_nn (by decide) (Wd_quiet (Wd_nn (by decide) w))
  exact ⟨Pa_Ev hs p h1.1.2.2.2 h1, Wd_Pa hs p w1⟩
theorem dn_31 : aS (aDown a s) 31 s = -1 := by
  show aS (aI (aI (aI a 52 s 0) 29 s (-1)) 31 s (-1)) 31 s = -1
  exact evI_e
theorem Pa_crashFile {P : AL → Prop} {f : Nat} {r : Int64} (hf : f < 16) : Pa s P 0 a (aCrashFile a s f r) := by
  unfold aCrashFile
  dsimp only
  exact Pa_0 (Pa_if (fun _ => Pa_put) (fun _ => Pa_put)) (Pa_syncFile hf)
theorem Pa_crashFiles {P : AL → Prop} {r : Int64} : ∀ n, n ≤ 16 → Pa s P 0 a (aCrashFiles a s r n).1 := by
  intro n
  induction n with
  | zero => exact fun _ => Pa.nil
  | succ n ih => exact fun hn => Pa_0 (ih (by omega)) (Pa_crashFile (by omega))
theorem crashFiles_31 {r : Int64} {i : Nat} : ∀ n, aS (aCrashFiles a s r n).1 31 i = aS a 31 i := by
  intro n
  induction n with
  | zero => rfl
  | succ n ih => exact (AFr_crashFile.1 31 (by decide) i).trans ih
theorem EW_crash {x : Int32} {r : Int64} (h : Ev t B c d a) (w : Wd a) (hc : c + 1 + 200 < 2147483648) : Ev t B (c + 1) d (A_crash a x r).1 ∧ Wd (A_crash a x r).1 := by
  have up : Ev t B (c + 1) d a := Ev_w (Nat.le_add_right _ _) hc (Nat.le_refl _) h
  unfold A_crash
  by_cases q1 : (!aInR x 0 6) = true
  · rw [if_pos q1]
    exact ⟨up, w⟩
  · rw [if_neg q1]
    dsimp only
    split
    · exact ⟨up, w⟩
    · have hx := inR_k q1
      rw [i_0, L_6] at hx
      have hs : x.toNatClampNeg < 7 := by
        show x.toInt.toNat < 7
        omega
      generalize x.toNatClampNeg = i at hs ⊢
      obtain ⟨h1, w1⟩ := EW_down h w hs
      have p1 : Pa i (sL i) 0 (aDown a i) (aI (aCrashFiles (aDown a i) i r 16).1 46 i 0) := Pa_n (by decide) (Pa_crashFiles 16 (by omega))
      have p2 : Pa i (sL i) 1 (aDown a i) (aI (aI (aCrashFiles (aDown a i) i r 16).1 46 i 0) 71 i 0) := Pa.cat p1 (Pa.clean (by
        rw [aS_If (by decide), crashFiles_31, dn_31]
        decide))
      exact ⟨Pa_Ev hs p2 hc h1, Wd_Pa hs p2 w1⟩
theorem aI_cc {f g i j : Nat} {v x : Int32} (h : f ≠ g) : aI (aI a f i v) g j x = aI (aI a g j x) f i v := Prod.ext (setI_c h) rfl
theorem down_31 {v : Int32} : aDown (aI a 31 s v) s = aDown a s := by
  have e : aI (aI (aI (aI a 31 s v) 52 s 0) 29 s (-1)) 31 s (-1) = aI (aI (aI a 52 s 0) 29 s (-1)) 31 s (-1) := by
    rw [aI_cc (f := 31) (g := 52) (by decide), aI_cc (f := 31) (g := 29) (by decide), aI_II]
  unfold aDown
  rw [e]
theorem outAll_31 {i : Nat} {v : Int32} : ∀ (w : List AL) (a : AA), A_sendAllOut (aI a 31 i v) w = aI (A_sendAllOut a w) 31 i v := by
  intro w
  induction w with
  | nil => exact fun a => rfl
  | cons l r ih =>
    intro a
    show A_sendAllOut (A_sendOut (aI a 31 i v) l) r = aI (A_sendAllOut (A_sendOut a l) r) 31 i v
    rw [out_Ig (by decide), ih]
theorem syncF_31 {i : Nat} {v : Int32} : ∀ n, aSyncFiles (aI a 31 i v) s n = aI (aSyncFiles a s n) 31 i v := by
  intro n
  induction n with
  | zero => rfl
  | succ n ih =>
    show aSyncFile (aSyncFiles (aI a 31 i v) s n) s n = aI (aSyncFile (aSyncFiles a s n) s n) 31 i v
    rw [ih]
    generalize aSyncFiles a s n = b
    exact Prod.ext (setI_c (by decide)) rfl
theorem syncA_31 {i : Nat} {v : Int32} : A_syncAll (aI a 31 i v) s = aI (A_syncAll a s) 31 i v := by
  unfold A_syncAll
  rw [syncF_31, aI_cc (f := 31) (g := 46) (by decide), aI_cc (f := 31) (g := 71) (by decide)]
theorem EW_stop {x : Int32} (h : Ev t B c d a) (w : Wd a) (hc : c + 1 + 200 < 2147483648) : Ev t B (c + 1) d (A_stop a x).1 ∧ Wd (A_stop a x).1 := by
  have up : Ev t B (c + 1) d a := Ev_w (Nat.le_add_right _ _) hc (Nat.le_refl _) h
  unfold A_stop
  by_cases q1 : (!aInR x 0 6) = true
  · rw [if_pos q1]
    exact ⟨up, w⟩
  · rw [if_neg q1]
    dsimp only
    split
    · exact ⟨up, w⟩
    · have hx := inR_k q1
      rw [i_0, L_6] at hx
      have hs : x.toNatClampNeg < 7 := by
        show x.toInt.toNat < 7
        omega
      generalize x.toNatClampNeg = i at hs ⊢
      have e : aDown (A_sendAllOut (A_syncAll a i) (aWt a i)) i = aDown (A_sendAllOut (A_syncAll (aI a 31 i (-1)) i) (aWt a i)) i := by
        rw [syncA_31, outAll_31, down_31]
      show Ev t B (c + 1) d (aDown (A_sendAllOut (A_syncAll a i) (aWt a i)) i) ∧ Wd (aDown (A_sendAllOut (A_syncAll a i) (aWt a i)) i)
      rw [e]
      have h1 : Ev t B c d (aI a 31 i (-1)) := Ev_quietS h hs
      have w1 : Wd (aI a 31 i (-1)) := Wd_nn (by decide) w
      have p : Pa i (sL i) 1 (aI a 31 i (-1)) (A_sendAllOut (A_syncAll (aI a 31 i (-1)) i) (aWt a i)) := Pa_0 (Pa_syncAll (by rw [evI_e]; decide)) (Pa_sendAllOut _ _ (w.1 i hs).2.2.1)
      exact EW_down (Pa_Ev hs p hc h1) (Wd_Pa hs p w1) hs
end FC2
