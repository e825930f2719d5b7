theorem td7 {σ : RS} {a : AA} {u : AU} {l : AL} (h : RM σ a u) (hl : u.1.1 = some l) (h7 : l.1 4 = 7) : σ.1 12 2824 = l.1 7 ∧ σ.1 12 2825 = l.1 8 ∧ σ.1 12 2826 = l.1 11 ∧ σ.1 12 2827 = l.1 12 ∧ σ.1 12 2828 = l.1 13 ∧ σ.1 12 2829 = l.1 17 := by
  obtain ⟨_, _, _, _, _, _, _, _, g, _⟩ := h_inl h hl
  have e : ∀ j, lTd (aAk a) l j = [l.1 7, l.1 8, l.1 11, l.1 12, l.1 13, l.1 17, l.1 10][j]? := by
    intro j
    unfold lTd
    dsimp only
    rw [if_neg (by rw [h7]; decide), if_neg (by rw [h7]; decide), if_neg (by rw [h7]; decide), if_neg (by rw [h7]; decide), if_pos h7]
  exact ⟨g 0 _ (e 0), g 1 _ (e 1), g 2 _ (e 2), g 3 _ (e 3), g 4 _ (e 4), g 5 _ (e 5)⟩
theorem bs7 {σ : RS} {a : AA} {u : AU} {l : AL} (h : RM σ a u) (hl : u.1.1 = some l) (h7 : l.1 4 = 7) {fr cnt : Nat} (e13 : l.1 13 = Int32.ofNat fr) (e17 : l.1 17 = Int32.ofNat cnt) (hc : fr + cnt ≤ (aEnc l.2.2.2).length) (hmx : fr + cnt < 2147483648) : cnt ≤ 1536 ∧ ∀ y, y < cnt → rLb σ 353 y = (aEnc l.2.2.2).getD (fr + y) 0 := by
  obtain ⟨_, _, _, _, _, _, _, ⟨U, u1, u2, u3, _⟩, _, g, _⟩ := h_inl h hl
  have e : lBs (aAk a) l = ((aEnc l.2.2.2).drop fr).take cnt := by
    unfold lBs
    rw [if_pos h7, e13, e17, i_cl (by omega), i_cl (by omega)]
  rw [e] at u3 g
  rw [List.length_take, List.length_drop] at u3
  refine ⟨by omega, fun y hy => g y _ ?_⟩
  rw [List.getElem?_take, if_pos hy, List.getElem?_drop, List.getElem?_eq_getElem (by omega), List.getD_eq_getElem?_getD, List.getElem?_eq_getElem (by omega)]
  rfl
/-- how a piece's letter fits -/
def pcOK (l : AL) : Prop := wfM l.2.2.2 ∧ l.1 12 = Int32.ofNat (aEnc l.2.2.2).length ∧ ∃ fr cnt, l.1 13 = Int32.ofNat fr ∧ l.1 17 = Int32.ofNat cnt ∧ fr + cnt ≤ (aEnc l.2.2.2).length
/-- the end of assemble, with a goal of its own -/
def asB (a : AA) (s : Nat) (l : AL) : AA :=
  let f := l.1 2
  let b := l.1 7
  if ¬ aS a 69 s = b ∨ ¬ l.1 13 = aS a 70 s then aStored a s f b (if aS a 69 s = b then aS a 70 s else 0) (l.1 10)
  else
    let a2 := aAdd a 70 s (l.1 17)
    let got := aS a2 70 s
    let a3 := if l.1 12 ≤ got then
        let c0 := aShS (aI (aMoveBase a2 s b (l.1 8) (l.1 11)) 67 s (l.1 12)) s l.2.2.2
        let c1 := aMcS (aI (aI c0 75 s b) 76 s b) s l.2.2.2
        aI (aSoil (aFindCode (aTrim (aWriteShot c1 s) s) s) s) 69 s (-1)
      else a2
    aStored a3 s f b got (l.1 10)
theorem asB_e {a : AA} {s : Nat} {l : AL} (h : ¬ l.1 7 ≤ aS a 75 s) : A_assemble a s l = asB (if l.1 13 = 0 then aPmS (aI (aI a 69 s (l.1 7)) 70 s 0) s l.2.2.2 else a) s l := by
  unfold A_assemble asB
  dsimp only
  rw [if_neg h]
theorem aMoveBase_k {a : AA} {s : Nat} {n t c : Int32} {k : Nat} (h1 : aHas a s n = true) (h2 : aTermAt a s n = t) (h3 : (n - aBase a s).toNatClampNeg = k) (h4 : aS a 77 s ≤ aLast a s) : aMoveBase a s n t c = aI (aI (aI (aLgS a s ((aLg a s).drop k)) 55 s n) 57 s t) 58 s c := by
  unfold aMoveBase
  dsimp only
  rw [h1, decide_eq_true h2, h3]
  simp only [Bool.and_self, if_true]
  refine (congrArg (fun z => aI z 77 s (aMin (aS a 77 s) (aLast a s))) (aI_same rfl)).trans (aI_same ?_)
  show aS a 77 s = aMin (aS a 77 s) (aLast a s)
  unfold aMin
  rw [if_pos h4]
theorem aMoveBase_n {a : AA} {s : Nat} {n t c : Int32} (h : (aHas a s n && decide (aTermAt a s n = t)) = false) : aMoveBase a s n t c = aI (aI (aI (aI (aI (aLgS a s []) 55 s n) 57 s t) 58 s c) 56 s n) 77 s (aMin (aS a 77 s) n) := by
  unfold aMoveBase
  dsimp only
  rw [h]
  simp only [Bool.false_eq_true, if_false]
theorem as_ord {X : AA} {s : Nat} {L n t c : Int32} : aI (aI (aI (aI X 67 s L) 55 s n) 57 s t) 58 s c = aI (aI (aI (aI X 55 s n) 57 s t) 58 s c) 67 s L := by
  have h : ∀ g : Nat, g ≠ 67 → ¬ (67 = g ∧ s = s) := fun g hg z => hg z.1.symm
  rw [aI_comm (h 55 (by decide)), aI_comm (h 57 (by decide)), aI_comm (h 58 (by decide))]
theorem as_ord2 {X : AA} {s : Nat} {L n t c : Int32} : aI (aI (aI (aI (aI X 67 s L) 56 s n) 55 s n) 57 s t) 58 s c = aI (aI (aI (aI (aI X 55 s n) 57 s t) 58 s c) 56 s n) 67 s L := by
  have h : ∀ f g : Nat, g ≠ f → ¬ (f = g ∧ s = s) := fun f g hg z => hg z.1.symm
  rw [aI_comm (h 67 56 (by decide)), aI_comm (h 67 55 (by decide)), aI_comm (h 67 57 (by decide)), aI_comm (h 67 58 (by decide)), aI_comm (h 56 55 (by decide)), aI_comm (h 56 57 (by decide)), aI_comm (h 56 58 (by decide))]
theorem M_asEnd {F : Nat} {σ : RS} {a : AA} {u : AU} {s : Nat} {l : AL} (hF : 20000 ≤ F) (h : RM σ a u) (hs : s < 7) (hf : aInR (l.1 2) 0 6 = true ∨ aInR (l.1 2) 8 15 = true) (hup : aS a 52 s = 1) (hz : u.2 s) (hmk : u.2 (14 + s)) (hr : ¬ aS a 73 s = 3)
    (hw : wfM l.2.2.2) (h12 : l.1 12 = Int32.ofNat (aEnc l.2.2.2).length) (hb : aS a 75 s < l.1 7) (hb2 : (l.1 7).toInt < 1073741824) (h69 : aS a 69 s = l.1 7) (hpm : aPm a s = l.2.2.2) {got : Nat} (h70 : aS a 70 s = Int32.ofNat got) (hg : got ≤ (aEnc l.2.2.2).length) :
    WP (if xc2 .lt (Int32.ofNat got) (l.1 12) = true then (
        m_assemble_b420 F σ (Int32.ofNat s) (l.1 2) (l.1 10) (l.1 7) (Int32.ofNat got)
      ) else (
        (rld σ 56 (Int32.ofNat s)).bind fun x108 =>
        if xc2 .gt (l.1 7) x108 = true then (
          m_assemble_b255 F σ (Int32.ofNat s) (l.1 2) (l.1 10) (l.1 7) (l.1 8) (l.1 11) (l.1 12) (Int32.ofNat got)
        ) else (
          (m_termAt σ (Int32.ofNat s) (l.1 7)).bind fun p111 =>
          if xc2 .ne p111.1 (l.1 8) = true then (
            m_assemble_b255 F p111.2 (Int32.ofNat s) (l.1 2) (l.1 10) (l.1 7) (l.1 8) (l.1 11) (l.1 12) (Int32.ofNat got)
          ) else (
            m_assemble_b256 F p111.2 ((1 : Int32)) (Int32.ofNat s) (l.1 2) (l.1 10) (l.1 7) (l.1 8) (l.1 11) (l.1 12) (Int32.ofNat got)
          )
        )
      )) (fun τ => RM τ (aStored (if l.1 12 ≤ Int32.ofNat got then
        aI (aSoil (aFindCode (aTrim (aWriteShot (aMcS (aI (aI (aShS (aI (aMoveBase a s (l.1 7) (l.1 8) (l.1 11)) 67 s (l.1 12)) s l.2.2.2) 75 s (l.1 7)) 76 s (l.1 7)) s l.2.2.2) s) s) s) s) 69 s (-1)
      else a) s (l.1 2) (l.1 7) (Int32.ofNat got) (l.1 10)) u) := by
  obtain ⟨el1, el2⟩ := aEnc_len hw
  have wl := RM_wl h hs
  have mk := h.2.2.2.2.2.2.2.2.2.2.2.2.2.2.2.2.2.2.2.2.2.2.1 s hs hmk
  have wc := h.2.2.2.2.2.2.2.2.2.2.2.2.2.2.2.2.2.2.2.2.2.1 s hs hz hup
  obtain ⟨w1, w2, w3, w4⟩ := id wl
  obtain ⟨mk1, mk2, mk3, mk4⟩ := id mk
  have hbi : (aBase a s).toInt < (l.1 7).toInt := by
    rw [Int32.le_iff_toInt_le] at mk1 mk2
    rw [Int32.lt_iff_toInt_lt] at hb
    omega
  rw [h12]
  have q0 : xc2 .lt (Int32.ofNat got) (Int32.ofNat (aEnc l.2.2.2).length) = true ↔ ¬ Int32.ofNat (aEnc l.2.2.2).length ≤ Int32.ofNat got := by
    rw [c2_lt]
    exact Int32.not_le.symm
  refine WP_if q0 (fun q => ?_) (fun q => ?_)
  · rw [if_neg q]
    unfold m_assemble_b420 aStored
    exact WP_call (M_tell (by omega) h hs hf (Or.inr (Or.inl ⟨rfl, rfl, rfl, rfl⟩))) (fun q hq => WP_some hq)
  · have q := Classical.not_not.mp q
    rw [if_pos q]
    have eg : got = (aEnc l.2.2.2).length := by
      rw [Int32.le_iff_toInt_le, Int32.toInt_ofNat_of_lt (by omega), Int32.toInt_ofNat_of_lt (by omega)] at q
      omega
    subst eg
    -- the bytes that came
    have hby : ∀ i, i < (aEnc l.2.2.2).length → σ.1 68 (14000 * s + i) = (aEnc l.2.2.2).getD i 0 := by
      have hp := h.2.2.2.2.2.2.2.2.2.2.2.1 s hs
      rw [h69, h70, hpm] at hp
      rcases hp with z | ⟨G, g1, g2, g3, g4⟩
      · rw [z] at hbi
        have : ((-1 : Int32)).toInt = -1 := by decide
        omega
      · rw [i_eqi (by omega) (by omega)] at g1
        rw [g1]
        exact g4
    have h0 := RM_off (RM_off h (14 + s)) s
    -- from the copy on
    have go : ∀ kp : Int32, (¬ kp = 0 ↔ (aHas a s (l.1 7) && decide (aTermAt a s (l.1 7) = l.1 8)) = true) → WP (m_assemble_b256 F σ kp (Int32.ofNat s) (l.1 2) (l.1 10) (l.1 7) (l.1 8) (l.1 11) (Int32.ofNat (aEnc l.2.2.2).length) (Int32.ofNat (aEnc l.2.2.2).length)) (fun τ => RM τ (aStored (aI (aSoil (aFindCode (aTrim (aWriteShot (aMcS (aI (aI (aShS (aI (aMoveBase a s (l.1 7) (l.1 8) (l.1 11)) 67 s (Int32.ofNat (aEnc l.2.2.2).length)) s l.2.2.2) 75 s (l.1 7)) 76 s (l.1 7)) s l.2.2.2) s) s) s) s) 69 s (-1)) s (l.1 2) (l.1 7) (Int32.ofNat (aEnc l.2.2.2).length) (l.1 10)) u) := by
      intro kp hkp
      unfold m_assemble_b256
      refine asm_out hs (by omega) (fun τ t1 t2 t3 => ?_) F 0 σ (by omega) (Nat.zero_le _) ⟨fun _ _ => rfl, fun _ _ => rfl⟩ (fun _ _ => rfl) (fun y hy => absurd hy (Nat.not_lt_zero _))
      have r1 := RM_shot h0 hr hw t1 t2 (fun i hi => by rw [t3 i hi, hby i hi]; exact aEnc_lowD hw hi)
      refine WP_st rfl 7 (by decide +kernel) hs ?_
      refine WP_st rfl 7 (by decide +kernel) hs ?_
      refine WP_st rfl 7 (by decide +kernel) hs ?_
      refine WP_st rfl 7 (by decide +kernel) hs ?_
      generalize setI τ 67 s (Int32.ofNat (aEnc l.2.2.2).length) = τ1 at r1
      have n67 : ¬ Int32.ofNat (aEnc l.2.2.2).length = 0 := by
        rw [show (0 : Int32) = Int32.ofNat 0 from rfl, i_eqi (by omega) (by omega)]
        omega
      refine WP_if c0_ne (fun y => ?_) (fun y => ?_)
      · have y := hkp.mp y
        rw [Bool.and_eq_true] at y
        obtain ⟨k, k1, k2, k3, k4, k5⟩ := aHas_k wl y.1
        have r2 := RM_b55 r1 hs k1 k2 k3 k5 (fun z => absurd rfl z.1.2)
        have r3 := RM_I (f := 58) (i := s) (v := l.1 11) (RM_I (f := 57) (i := s) (v := l.1 8) r2 (by decide)) (by decide)
        have e : aI (aI (aI (aLgS (aShS (aI a 67 s (Int32.ofNat (aEnc l.2.2.2).length)) s l.2.2.2) s ((aLg a s).drop k)) 55 s (l.1 7)) 57 s (l.1 8)) 58 s (l.1 11) = aShS (aI (aMoveBase a s (l.1 7) (l.1 8) (l.1 11)) 67 s (Int32.ofNat (aEnc l.2.2.2).length)) s l.2.2.2 := by
          rw [aMoveBase_k y.1 (of_decide_eq_true y.2) k4 mk4]
          exact congrArg (fun z => aShS z s l.2.2.2) (as_ord (X := aLgS a s ((aLg a s).drop k)) (s := s) (L := Int32.ofNat (aEnc l.2.2.2).length) (n := l.1 7) (t := l.1 8) (c := l.1 11))
        have r4 := r3
        rw [show aLg (aShS (aI a 67 s (Int32.ofNat (aEnc l.2.2.2).length)) s l.2.2.2) s = aLg a s from rfl] at r4
        have d55 : aBase (aI (aI (aI (aLgS (aShS (aI a 67 s (Int32.ofNat (aEnc l.2.2.2).length)) s l.2.2.2) s ((aLg a s).drop k)) 55 s (l.1 7)) 57 s (l.1 8)) 58 s (l.1 11)) s = l.1 7 := if_pos ⟨rfl, rfl⟩
        have d67 : aS (aI (aI (aI (aLgS (aShS (aI a 67 s (Int32.ofNat (aEnc l.2.2.2).length)) s l.2.2.2) s ((aLg a s).drop k)) 55 s (l.1 7)) 57 s (l.1 8)) 58 s (l.1 11)) 67 s = Int32.ofNat (aEnc l.2.2.2).length := if_pos ⟨rfl, rfl⟩
        have dsh : aSh (aI (aI (aI (aLgS (aShS (aI a 67 s (Int32.ofNat (aEnc l.2.2.2).length)) s l.2.2.2) s ((aLg a s).drop k)) 55 s (l.1 7)) 57 s (l.1 8)) 58 s (l.1 11)) s = l.2.2.2 := if_pos rfl
        have d56 : aLast (aI (aI (aI (aLgS (aShS (aI a 67 s (Int32.ofNat (aEnc l.2.2.2).length)) s l.2.2.2) s ((aLg a s).drop k)) 55 s (l.1 7)) 57 s (l.1 8)) 58 s (l.1 11)) s = aLast a s := rfl
        have d77 : aS (aI (aI (aI (aLgS (aShS (aI a 67 s (Int32.ofNat (aEnc l.2.2.2).length)) s l.2.2.2) s ((aLg a s).drop k)) 55 s (l.1 7)) 57 s (l.1 8)) 58 s (l.1 11)) 77 s = aS a 77 s := rfl
        have d52 : aS (aI (aI (aI (aLgS (aShS (aI a 67 s (Int32.ofNat (aEnc l.2.2.2).length)) s l.2.2.2) s ((aLg a s).drop k)) 55 s (l.1 7)) 57 s (l.1 8)) 58 s (l.1 11)) 52 s = aS a 52 s := rfl
        have dch : aCh (aI (aI (aI (aLgS (aShS (aI a 67 s (Int32.ofNat (aEnc l.2.2.2).length)) s l.2.2.2) s ((aLg a s).drop k)) 55 s (l.1 7)) 57 s (l.1 8)) 58 s (l.1 11)) s = aCh a s := rfl
        have dfc : aFc (aI (aI (aI (aLgS (aShS (aI a 67 s (Int32.ofNat (aEnc l.2.2.2).length)) s l.2.2.2) s ((aLg a s).drop k)) 55 s (l.1 7)) 57 s (l.1 8)) 58 s (l.1 11)) s = aFc a s := rfl
        rw [← e]
        generalize aI (aI (aI (aLgS (aShS (aI a 67 s (Int32.ofNat (aEnc l.2.2.2).length)) s l.2.2.2) s ((aLg a s).drop k)) 55 s (l.1 7)) 57 s (l.1 8)) 58 s (l.1 11) = c at r4 d55 d67 dsh d56 d77 d52 dch dfc
        unfold m_assemble_b345
        refine WP_r7 r4 (by decide) hs ?_
        refine WP_r7 r4 (by decide) hs ?_
        refine WP_if c2_le (fun _ => ?_) (fun y2 => ?_)
        · refine M_as372 hF r4 hs (by rw [d52]; exact hup) hf dsh ?_ ?_ d55 ?_ (by rw [d67]; exact n67)
          · unfold WPre
            rw [dch, dfc, d56, d55]
            refine ⟨wc.1, wc.2.1, Or.inr ?_⟩
            rcases wc.2.2 with z | ⟨m, m1, m2, m3⟩
            · have := congrArg Int32.toInt z.2
              omega
            · exact ⟨m, m1, by omega, m3⟩
          · rw [d56, Int32.le_iff_toInt_le]
            omega
          · rw [d56, d77]
            exact mk4
        · refine absurd ?_ y2
          show aS c 77 s ≤ aLast c s
          rw [d56, d77]
          exact mk4
      · have y : (aHas a s (l.1 7) && decide (aTermAt a s (l.1 7) = l.1 8)) = false := by
          cases hh : (aHas a s (l.1 7) && decide (aTermAt a s (l.1 7) = l.1 8)) with
          | false => rfl
          | true => exact absurd (Classical.not_not.mp y) (hkp.mpr hh)
        refine WP_st rfl 7 (by decide +kernel) hs ?_
        have r2 := RM_e55 (s := s) (n := l.1 7) r1 (fun z => z.2 rfl) (fun z => z.1.2 rfl) hr (by omega) hb2
        have r3 := RM_I (f := 58) (i := s) (v := l.1 11) (RM_I (f := 57) (i := s) (v := l.1 8) r2 (by decide)) (by decide)
        rw [show setI (setI (setI (setI τ1 55 s (l.1 7)) 57 s (l.1 8)) 58 s (l.1 11)) 56 s (l.1 7) = setI (setI (setI (setI τ1 56 s (l.1 7)) 55 s (l.1 7)) 57 s (l.1 8)) 58 s (l.1 11) by
          rw [setI_c (f := 56) (g := 55) (by decide), setI_c (f := 56) (g := 57) (by decide), setI_c (f := 56) (g := 58) (by decide)]]
        generalize setI (setI (setI (setI τ1 56 s (l.1 7)) 55 s (l.1 7)) 57 s (l.1 8)) 58 s (l.1 11) = τ2 at r3
        have e : aI (aI (aI (aI (aI (aLgS (aShS (aI a 67 s (Int32.ofNat (aEnc l.2.2.2).length)) s l.2.2.2) s []) 56 s (l.1 7)) 55 s (l.1 7)) 57 s (l.1 8)) 58 s (l.1 11)) 77 s (aMin (aS a 77 s) (l.1 7)) = aShS (aI (aMoveBase a s (l.1 7) (l.1 8) (l.1 11)) 67 s (Int32.ofNat (aEnc l.2.2.2).length)) s l.2.2.2 := by
          rw [aMoveBase_n y]
          refine (congrArg (fun z => aI (aShS z s l.2.2.2) 77 s (aMin (aS a 77 s) (l.1 7))) (as_ord2 (X := aLgS a s []))).trans ?_
          exact congrArg (fun z => aShS z s l.2.2.2) (aI_comm (fun z => absurd z.1 (by decide)))
        have d55 : aBase (aI (aI (aI (aI (aLgS (aShS (aI a 67 s (Int32.ofNat (aEnc l.2.2.2).length)) s l.2.2.2) s []) 56 s (l.1 7)) 55 s (l.1 7)) 57 s (l.1 8)) 58 s (l.1 11)) s = l.1 7 := if_pos ⟨rfl, rfl⟩
        have d56 : aLast (aI (aI (aI (aI (aLgS (aShS (aI a 67 s (Int32.ofNat (aEnc l.2.2.2).length)) s l.2.2.2) s []) 56 s (l.1 7)) 55 s (l.1 7)) 57 s (l.1 8)) 58 s (l.1 11)) s = l.1 7 := if_pos ⟨rfl, rfl⟩
        have d67 : aS (aI (aI (aI (aI (aLgS (aShS (aI a 67 s (Int32.ofNat (aEnc l.2.2.2).length)) s l.2.2.2) s []) 56 s (l.1 7)) 55 s (l.1 7)) 57 s (l.1 8)) 58 s (l.1 11)) 67 s = Int32.ofNat (aEnc l.2.2.2).length := if_pos ⟨rfl, rfl⟩
        have dsh : aSh (aI (aI (aI (aI (aLgS (aShS (aI a 67 s (Int32.ofNat (aEnc l.2.2.2).length)) s l.2.2.2) s []) 56 s (l.1 7)) 55 s (l.1 7)) 57 s (l.1 8)) 58 s (l.1 11)) s = l.2.2.2 := if_pos rfl
        have d77 : aS (aI (aI (aI (aI (aLgS (aShS (aI a 67 s (Int32.ofNat (aEnc l.2.2.2).length)) s l.2.2.2) s []) 56 s (l.1 7)) 55 s (l.1 7)) 57 s (l.1 8)) 58 s (l.1 11)) 77 s = aS a 77 s := rfl
        have d52 : aS (aI (aI (aI (aI (aLgS (aShS (aI a 67 s (Int32.ofNat (aEnc l.2.2.2).length)) s l.2.2.2) s []) 56 s (l.1 7)) 55 s (l.1 7)) 57 s (l.1 8)) 58 s (l.1 11)) 52 s = aS a 52 s := rfl
        have dch : aCh (aI (aI (aI (aI (aLgS (aShS (aI a 67 s (Int32.ofNat (aEnc l.2.2.2).length)) s l.2.2.2) s []) 56 s (l.1 7)) 55 s (l.1 7)) 57 s (l.1 8)) 58 s (l.1 11)) s = aCh a s := rfl
        have dfc : aFc (aI (aI (aI (aI (aLgS (aShS (aI a 67 s (Int32.ofNat (aEnc l.2.2.2).length)) s l.2.2.2) s []) 56 s (l.1 7)) 55 s (l.1 7)) 57 s (l.1 8)) 58 s (l.1 11)) s = aFc a s := rfl
        rw [← e]
        generalize aI (aI (aI (aI (aLgS (aShS (aI a 67 s (Int32.ofNat (aEnc l.2.2.2).length)) s l.2.2.2) s []) 56 s (l.1 7)) 55 s (l.1 7)) 57 s (l.1 8)) 58 s (l.1 11) = c at r3 d55 d56 d67 dsh d77 d52 dch dfc
        unfold m_assemble_b345
        refine WP_r7 r3 (by decide) hs ?_
        refine WP_r7 r3 (by decide) hs ?_
        have e56 : aS c 56 s = l.1 7 := d56
        rw [e56, d77]
        have fin : ∀ (τ3 : RS) (c3 : AA), RM τ3 c3 (u.1, fun x => (u.2 x ∧ x ≠ 14 + s) ∧ x ≠ s) → c3 = aI c 77 s (aMin (aS a 77 s) (l.1 7)) → WP (m_assemble_b372 F τ3 (Int32.ofNat s) (l.1 2) (l.1 10) (l.1 7) (Int32.ofNat (aEnc l.2.2.2).length)) (fun τ => RM τ (aStored (aI (aSoil (aFindCode (aTrim (aWriteShot (aMcS (aI (aI (aI c 77 s (aMin (aS a 77 s) (l.1 7))) 75 s (l.1 7)) 76 s (l.1 7)) s l.2.2.2) s) s) s) s) 69 s (-1)) s (l.1 2) (l.1 7) (Int32.ofNat (aEnc l.2.2.2).length) (l.1 10)) u) := by
          intro τ3 c3 h3 ec
          have f1 : AFr [77] [] c c3 := by rw [ec]; exact AFr_I
          have f77 : aS c3 77 s = aMin (aS a 77 s) (l.1 7) := by rw [ec]; exact if_pos ⟨rfl, rfl⟩
          have f56 : aLast c3 s = l.1 7 := (f1.1 56 (by decide) s).trans d56
          have f55 : aBase c3 s = l.1 7 := (f1.1 55 (by decide) s).trans d55
          rw [← ec]
          refine M_as372 hF h3 hs (by rw [f1.1 52 (by decide), d52]; exact hup) hf (by rw [f1.2.2.2.2.2.1 (by decide)]; exact dsh) ?_ ?_ f55 ?_ (by rw [f1.1 67 (by decide), d67]; exact n67)
          · unfold WPre
            rw [f1.2.2.2.2.2.2.2.2.2.1 (by decide), f1.2.2.2.2.2.2.2.1 (by decide), dch, dfc, f56, f55]
            exact ⟨wc.1, wc.2.1, Or.inl rfl⟩
          · rw [f56]
            exact Int32.le_refl _
          · rw [f56, f77]
            unfold aMin
            split
            · assumption
            · exact Int32.le_refl _
        refine WP_if c2_le (fun y2 => ?_) (fun y2 => ?_)
        · refine fin τ2 c r3 ?_
          refine (aI_same ?_).symm
          rw [d77]
          unfold aMin
          rw [if_pos y2]
        · refine WP_r7 r3 (by decide) hs ?_
          rw [e56]
          refine WP_wmk r3 (Or.inr (Or.inr rfl)) hs (fun z => absurd rfl z.1.2) (fun σ5 h5 => ?_)
          refine fin σ5 _ h5 ?_
          unfold aMin
          rw [if_neg y2]
    refine WP_r7 h (by decide) hs ?_
    refine WP_if c2_gt (fun y => ?_) (fun y => ?_)
    · unfold m_assemble_b255
      refine go 0 ⟨fun z => absurd rfl z, fun z => ?_⟩
      rw [Bool.and_eq_true] at z
      have z1 := z.1
      unfold aHas at z1
      rw [Bool.and_eq_true] at z1
      exact absurd (of_decide_eq_true z1.2) (Int32.not_le.mpr y)
    · have hh : aHas a s (l.1 7) = true := by
        unfold aHas
        rw [decide_eq_true (show aBase a s < l.1 7 from Int32.lt_iff_toInt_lt.mpr hbi), decide_eq_true (show l.1 7 ≤ aLast a s from Int32.not_lt.mp y)]
        rfl
      refine WP_eq (M_termAt h hs (Or.inr hh)) ?_
      refine WP_if c2_ne (fun y2 => ?_) (fun y2 => ?_)
      · unfold m_assemble_b255
        refine go 0 ⟨fun z => absurd rfl z, fun z => ?_⟩
        rw [Bool.and_eq_true] at z
        exact absurd (of_decide_eq_true z.2) y2
      · refine go 1 ⟨fun _ => ?_, fun _ => by decide⟩
        rw [hh, decide_eq_true (Classical.not_not.mp y2)]
        rfl
