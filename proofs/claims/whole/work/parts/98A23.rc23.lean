/-! the disk is synced -/
theorem aFrame_w {F : AF} {k : Nat} (h : k ≤ (aWhole F).length) : aFrame F.2.1 k = 24 + (((aWhole F).take k).map aEsz).sum := by
  unfold aWhole at h ⊢
  unfold aFrame
  rw [List.length_take] at h
  rw [List.take_take, Nat.min_eq_left (by omega)]
theorem aFrame_g {F G : AF} {m k : Nat} (h1 : m ≤ (aWhole F).length) (h2 : m ≤ (aWhole G).length) (e : (aWhole F).take m = (aWhole G).take m) (hk : k ≤ m) : aFrame F.2.1 k = aFrame G.2.1 k := by
  have t : ∀ l : List AE, l.take k = (l.take m).take k := fun l => by rw [List.take_take, Nat.min_eq_left hk]
  rw [aFrame_w (F := F) (by omega), aFrame_w (F := G) (by omega), t (aWhole F), e, ← t (aWhole G)]
theorem getD_t {l l' : List AE} {m i : Nat} (e : l.take m = l'.take m) (hi : i < m) : l.getD i aE0 = l'.getD i aE0 := by
  have h : l[i]? = l'[i]? := by
    rw [← List.getElem?_take_of_lt (l := l) hi, e, List.getElem?_take_of_lt hi]
  rw [List.getD_eq_getElem?_getD, List.getD_eq_getElem?_getD, h]
theorem K_room0 {c : CS} {q : Nat} (h6 : cL c 11 q 6 = 6 * cL c 11 q 7) (hc : cL c 11 q 7 ≤ 644) : WP (k_Page_makeRoom c q (Int32.ofNat 0)) (RmQ c q 0) := by
  unfold k_Page_makeRoom k_Page_makeRoom_b0 k_Page_makeRoom_b45
  rw [cal_g.2.1]
  refine WP_if (i_gei (by omega) (by omega)) (fun z => ?_) (fun z => absurd (Nat.zero_le _) z)
  exact WP_some ⟨⟨fun _ h => h, fun _ h => h, fun _ _ _ _ => Sm_r, Nat.le_refl _, z⟩, fun _ _ => rfl, fun _ _ => rfl, h6⟩
theorem K_takeOver {c : CS} {q r m : Nat} {F G : AF} (hq : PG c q G) (hr : PG c r F) (hqr : q ≠ r) (m1 : m ≤ (aWhole F).length) (m2 : m ≤ (aWhole G).length) (me : (aWhole F).take m = (aWhole G).take m) (room : (aWhole F).length = 0 ∨ (q < 210 ∧ 6 ≤ q % 30)) (cap : cL c 11 q 7 ≤ 644) : WP (k_Page_takeOver c q r (Int32.ofNat m)) (fun c' => PG c' q F ∧ (∀ v, KRm c v → KRm c' v) ∧ (cT c).1 ≤ (cT c').1 ∧ ∀ cl i f, ¬ (cl = 11 ∧ i = q ∧ f < 8) → Sm c c' cl i f) := by
  obtain ⟨g0, g1, g2, g3, g4, g5, g6, g7, g8, g9, g10, g11⟩ := hq
  obtain ⟨f0, f1, f2, f3, f4, f5, f6, f7, f8, f9, f10, f11⟩ := hr
  have nq : ∀ {x y z w : Nat}, ¬ (11 = 11 ∧ r = q ∧ x = y ∧ z = w) := fun z => hqr z.2.1.symm
  unfold k_Page_takeOver k_Page_takeOver_b0 k_Page_takeOver_b96 cputZ
  rw [f0, if_pos f9]
  refine WP_b ?_
  rw [show cI (csI c 11 q 0 0 (F.1 0)) 11 r 1 0 = F.1 1 from (csI_ne nq).trans f1]
  refine WP_b ?_
  rw [show cI (csI (csI c 11 q 0 0 (F.1 0)) 11 q 1 0 (F.1 1)) 11 r 2 0 = F.1 2 from (csI_ne nq).trans ((csI_ne nq).trans f2)]
  refine WP_b ?_
  rw [show cI (csI (csI (csI c 11 q 0 0 (F.1 0)) 11 q 1 0 (F.1 1)) 11 q 2 0 (F.1 2)) 11 r 3 0 = F.1 3 from (csI_ne nq).trans ((csI_ne nq).trans ((csI_ne nq).trans f3))]
  refine WP_b ?_
  rw [show cI (csI (csI (csI (csI c 11 q 0 0 (F.1 0)) 11 q 1 0 (F.1 1)) 11 q 2 0 (F.1 2)) 11 q 3 0 (F.1 3)) 11 r 4 0 = F.1 4 from (csI_ne nq).trans ((csI_ne nq).trans ((csI_ne nq).trans ((csI_ne nq).trans f4)))]
  refine WP_b ?_
  have P : P11 q [0, 1, 2, 3, 4] c (csI (csI (csI (csI (csI c 11 q 0 0 (F.1 0)) 11 q 1 0 (F.1 1)) 11 q 2 0 (F.1 2)) 11 q 3 0 (F.1 3)) 11 q 4 0 (F.1 4)) := P11_t (P11_t (P11_t (P11_t (P11_I (by decide)) (P11_I (by decide))) (P11_I (by decide))) (P11_I (by decide))) (P11_I (by decide))
  have v4 : cI (csI (csI (csI (csI (csI c 11 q 0 0 (F.1 0)) 11 q 1 0 (F.1 1)) 11 q 2 0 (F.1 2)) 11 q 3 0 (F.1 3)) 11 q 4 0 (F.1 4)) 11 q 4 0 = F.1 4 := csI_e
  have v3 : cI (csI (csI (csI (csI (csI c 11 q 0 0 (F.1 0)) 11 q 1 0 (F.1 1)) 11 q 2 0 (F.1 2)) 11 q 3 0 (F.1 3)) 11 q 4 0 (F.1 4)) 11 q 3 0 = F.1 3 := (csI_f (by decide)).trans csI_e
  have v2 : cI (csI (csI (csI (csI (csI c 11 q 0 0 (F.1 0)) 11 q 1 0 (F.1 1)) 11 q 2 0 (F.1 2)) 11 q 3 0 (F.1 3)) 11 q 4 0 (F.1 4)) 11 q 2 0 = F.1 2 := (csI_f (by decide)).trans ((csI_f (by decide)).trans csI_e)
  have v1 : cI (csI (csI (csI (csI (csI c 11 q 0 0 (F.1 0)) 11 q 1 0 (F.1 1)) 11 q 2 0 (F.1 2)) 11 q 3 0 (F.1 3)) 11 q 4 0 (F.1 4)) 11 q 1 0 = F.1 1 := (csI_f (by decide)).trans ((csI_f (by decide)).trans ((csI_f (by decide)).trans csI_e))
  have v0 : cI (csI (csI (csI (csI (csI c 11 q 0 0 (F.1 0)) 11 q 1 0 (F.1 1)) 11 q 2 0 (F.1 2)) 11 q 3 0 (F.1 3)) 11 q 4 0 (F.1 4)) 11 q 0 0 = F.1 0 := (csI_f (by decide)).trans ((csI_f (by decide)).trans ((csI_f (by decide)).trans ((csI_f (by decide)).trans csI_e)))
  generalize csI (csI (csI (csI (csI c 11 q 0 0 (F.1 0)) 11 q 1 0 (F.1 1)) 11 q 2 0 (F.1 2)) 11 q 3 0 (F.1 3)) 11 q 4 0 (F.1 4) = c5 at P v0 v1 v2 v3 v4
  have er : ∀ f j, cI c5 11 r f j = cI c 11 r f j := fun f j => (P.1 11 r f (fun w => hqr w.2.1.symm)).1 j
  have eq : ∀ f j, 5 ≤ f → cI c5 11 q f j = cI c 11 q f j := fun f j hf => (P.1 11 q f (fun w => by have := w.2.2; simp only [List.mem_cons, List.not_mem_nil, or_false] at this; omega)).1 j
  have eL := P.2.2.1
  rw [er 5 0, f5]
  have key : WP (k_Page_makeRoom c5 q (Int32.ofNat (aWhole F).length)) (RmQ c5 q (aWhole F).length) := by
    rcases room with z | ⟨z1, z2⟩
    · rw [z]
      exact K_room0 (by rw [eL]; exact g8) (by rw [eL]; exact cap)
    · exact K_makeRoomQ z1 z2 (by omega) (by rw [eL]; exact g8) (by rw [eL]; exact cap)
  refine WP_call key (fun c6 h6 => ?_)
  obtain ⟨⟨k1, k2, k3, k4, k5⟩, k6, k7, k8⟩ := h6
  have er6 : ∀ f j, cI c6 11 r f j = cI c 11 r f j := fun f j => ((k3 11 r f (fun w => hqr w.2.1.symm)).1 j).trans (er f j)
  rw [er6 5 0, f5, i_subn m1]
  have eLr : cL c6 11 r 6 = cL c 11 r 6 ∧ cL c6 11 r 7 = cL c 11 r 7 := ⟨(k3 11 r 6 (fun w => hqr w.2.1.symm)).2.2.1.trans (by rw [eL]), (k3 11 r 7 (fun w => hqr w.2.1.symm)).2.2.1.trans (by rw [eL])⟩
  have fin : ∀ c7, (∀ cl i f, ¬ (cl = 11 ∧ i = q ∧ (f = 6 ∨ f = 7)) → Sm c6 c7 cl i f) → cL c7 = cL c6 → cS c7 = cS c6 → cT c7 = cT c6 → (∀ i, i < (aWhole F).length → (∀ y, y < 6 → cI c7 11 q 6 (6 * i + y) = if i < m then cI c6 11 q 6 (6 * i + y) else cI c6 11 r 6 (6 * i + y)) ∧ cI c7 11 q 7 i = if i < m then cI c6 11 q 7 i else cI c6 11 r 7 i) → WP ((some (csI c7 11 q 5 0 (cI c7 11 r 5 0))).bind fun σ1 => some σ1) (fun c' => PG c' q F ∧ (∀ v, KRm c v → KRm c' v) ∧ (cT c).1 ≤ (cT c').1 ∧ ∀ cl i f, ¬ (cl = 11 ∧ i = q ∧ f < 8) → Sm c c' cl i f) := by
    intro c7 q1 q2 q3 q4 q5
    have o : ∀ f, f < 5 → cI (csI c7 11 q 5 0 (cI c7 11 r 5 0)) 11 q f 0 = cI c5 11 q f 0 := fun f hf => (csI_f (by omega)).trans (((q1 11 q f (fun w => by omega)).1 0).trans ((k3 11 q f (fun w => by omega)).1 0))
    refine WP_b (WP_some ⟨⟨(o 0 (by omega)).trans v0, (o 1 (by omega)).trans v1, (o 2 (by omega)).trans v2, (o 3 (by omega)).trans v3, (o 4 (by omega)).trans v4, ?_, fun i hi => ?_, ?_, ?_, f9, f10, f11⟩, fun v hv => ?_, ?_, fun cl i f hn => ?_⟩)
    · rw [csI_e, (q1 11 r 5 (fun w => by omega)).1 0, er6 5 0, f5]
    · obtain ⟨w1, w2⟩ := q5 i hi
      by_cases z : i < m
      · rw [if_pos z] at w2
        have hG := g6 i (by omega)
        refine ⟨fun y hy => ?_, ?_⟩
        · rw [csI_f (by decide), w1 y hy, if_pos z, k6 _ (by rw [eL]; omega), eq 6 _ (by omega), hG.1 y hy, getD_t me z]
        · rw [csI_f (by decide), w2, k7 _ (by rw [eL]; omega), eq 7 _ (by omega), hG.2, aFrame_g m1 m2 me (by omega)]
      · rw [if_neg z] at w2
        have hR := f6 i hi
        refine ⟨fun y hy => ?_, ?_⟩
        · rw [csI_f (by decide), w1 y hy, if_neg z, er6, hR.1 y hy]
        · rw [csI_f (by decide), w2, er6, hR.2]
    · show _ ≤ cL c7 11 q 7
      rw [q2]
      exact k5
    · show cL c7 11 q 6 = 6 * cL c7 11 q 7
      rw [q2]
      exact k8
    · exact KRm_eq (c := c6) (v := v) q2 q3 q4 (k2 v (KRm_eq (c := c) (v := v) P.2.2.1 P.2.2.2 P.2.1 hv))
    · show (cT c).1 ≤ (cT c7).1
      rw [q4, ← P.2.1]
      exact k4
    · refine Sm_t (P.1 cl i f (fun w => ?_)) (Sm_t (k3 cl i f (fun w => hn ⟨w.1, w.2.1, by omega⟩)) (Sm_t (q1 cl i f (fun w => hn ⟨w.1, w.2.1, by omega⟩)) ⟨fun j => csI_ne (fun w => hn ⟨w.1, w.2.1, by omega⟩), fun _ => rfl, rfl, rfl⟩))
      have := w.2.2
      simp only [List.mem_cons, List.not_mem_nil, or_false] at this
      exact hn ⟨w.1, w.2.1, by omega⟩
  refine WP_if c0_le (fun z => ?_) (fun z => ?_)
  · rw [Int32.le_iff_toInt_le, Int32.toInt_ofNat_of_lt (by omega), i_0] at z
    have g := fin c6 (fun _ _ _ _ => Sm_r) rfl rfl rfl (fun i hi => ⟨fun y _ => (if_pos (by omega)).symm, (if_pos (by omega)).symm⟩)
    rw [er6 5 0, f5] at g
    exact g
  · rw [show Int32.ofNat m * 6 = Int32.ofNat (m * 6) from i_mc (s := 6), show Int32.ofNat ((aWhole F).length - m) * 6 = Int32.ofNat (((aWhole F).length - m) * 6) from i_mc (s := 6)]
    refine WP_eq (ccpy_n (s := m * 6) (t := m * 6) (n := ((aWhole F).length - m) * 6) rfl rfl rfl (show m * 6 + ((aWhole F).length - m) * 6 ≤ cL c6 11 r 6 by rw [eLr.1]; omega) (show m * 6 + ((aWhole F).length - m) * 6 ≤ cL c6 11 q 6 by omega) (by omega) (by omega)) ?_
    refine WP_eq (ccpy_n (s := m) (t := m) (n := (aWhole F).length - m) rfl rfl rfl (show m + ((aWhole F).length - m) ≤ cL c6 11 r 7 by rw [eLr.2]; omega) (show m + ((aWhole F).length - m) ≤ cL c6 11 q 7 by omega) (by omega) (by omega)) ?_
    refine fin _ (fun cl i f w => ⟨fun j => (if_neg (fun u => w ⟨u.1, u.2.1, Or.inr u.2.2⟩)).trans (if_neg (fun u => w ⟨u.1, u.2.1, Or.inl u.2.2⟩)), fun _ => rfl, rfl, rfl⟩) rfl rfl rfl (fun i hi => ⟨fun y hy => ?_, ?_⟩)
    · have e1 : cI (csA (csA c6 11 q 6 (fun w => if m * 6 ≤ w ∧ w < m * 6 + ((aWhole F).length - m) * 6 then cI c6 11 r 6 (m * 6 + (w - m * 6)) else cI c6 11 q 6 w)) 11 q 7 (fun w => if m ≤ w ∧ w < m + ((aWhole F).length - m) then cI (csA c6 11 q 6 (fun w => if m * 6 ≤ w ∧ w < m * 6 + ((aWhole F).length - m) * 6 then cI c6 11 r 6 (m * 6 + (w - m * 6)) else cI c6 11 q 6 w)) 11 r 7 (m + (w - m)) else cI (csA c6 11 q 6 (fun w => if m * 6 ≤ w ∧ w < m * 6 + ((aWhole F).length - m) * 6 then cI c6 11 r 6 (m * 6 + (w - m * 6)) else cI c6 11 q 6 w)) 11 q 7 w)) 11 q 6 (6 * i + y) = if m * 6 ≤ 6 * i + y ∧ 6 * i + y < m * 6 + ((aWhole F).length - m) * 6 then cI c6 11 r 6 (m * 6 + (6 * i + y - m * 6)) else cI c6 11 q 6 (6 * i + y) := (if_neg (fun u => absurd u.2.2 (by decide))).trans (if_pos ⟨rfl, rfl, rfl⟩)
      rw [e1]
      by_cases u : i < m
      · rw [if_neg (by omega), if_pos u]
      · rw [if_pos (by omega), if_neg u, show m * 6 + (6 * i + y - m * 6) = 6 * i + y by omega]
    · have e1 : cI (csA (csA c6 11 q 6 (fun w => if m * 6 ≤ w ∧ w < m * 6 + ((aWhole F).length - m) * 6 then cI c6 11 r 6 (m * 6 + (w - m * 6)) else cI c6 11 q 6 w)) 11 q 7 (fun w => if m ≤ w ∧ w < m + ((aWhole F).length - m) then cI (csA c6 11 q 6 (fun w => if m * 6 ≤ w ∧ w < m * 6 + ((aWhole F).length - m) * 6 then cI c6 11 r 6 (m * 6 + (w - m * 6)) else cI c6 11 q 6 w)) 11 r 7 (m + (w - m)) else cI (csA c6 11 q 6 (fun w => if m * 6 ≤ w ∧ w < m * 6 + ((aWhole F).length - m) * 6 then cI c6 11 r 6 (m * 6 + (w - m * 6)) else cI c6 11 q 6 w)) 11 q 7 w)) 11 q 7 i = if m ≤ i ∧ i < m + ((aWhole F).length - m) then cI (csA c6 11 q 6 (fun w => if m * 6 ≤ w ∧ w < m * 6 + ((aWhole F).length - m) * 6 then cI c6 11 r 6 (m * 6 + (w - m * 6)) else cI c6 11 q 6 w)) 11 r 7 (m + (i - m)) else cI (csA c6 11 q 6 (fun w => if m * 6 ≤ w ∧ w < m * 6 + ((aWhole F).length - m) * 6 then cI c6 11 r 6 (m * 6 + (w - m * 6)) else cI c6 11 q 6 w)) 11 q 7 i := if_pos ⟨rfl, rfl, rfl⟩
      rw [e1]
      by_cases u : i < m
      · rw [if_neg (by omega), if_pos u]
        exact if_neg (fun z => absurd z.2.2 (by decide))
      · rw [if_pos (by omega), if_neg u, show m + (i - m) = i by omega]
        exact if_neg (fun z => hqr z.2.1.symm)
/-- a file is kept as it is -/
theorem RC_pgk {c c' : CS} {a : AA} {v : CV} {s f : Nat} {x : Int32} (h : RC c a v) (hs : s < 7) (hf : f < 16) (hF : Ck PD s c c') (hT : (cT c).1 ≤ (cT c').1) (hr : KRm c' v) (hp : PG c' (30 * s + cpg f) (aFc a s f)) (hk : PG c' (30 * s + ckp f) (aFc a s f)) (hsm : f ≠ 2 → f ≠ 3 → KSm c' s f (aFc a s f) (aFc a s f)) (hsn : f = 2 ∨ f = 3 → (aFc a s f).1 0 = 1 → KSn c' (30 * s + cpg f) (aFc a s f))
    (ho : ∀ q g, q / 30 = s → q ≠ 30 * s + cpg f → q ≠ 30 * s + ckp f → g < 10 → Sm c c' 11 q g) (h3 : ∀ g, g < 16 → g ≠ f → cI c' 6 s 3 g = cI c 6 s 3 g) (hl : ∀ g, g < 16 → cI c' 6 s 2 g = if g = f then x else cI c 6 s 2 g) : RC c' (aI (aFkS a s (aU (aFk a s) f (aFc a s f))) 43 (16 * s + f) x) v := by
  have efk : ∀ t g, aFk (aI (aFkS a s (aU (aFk a s) f (aFc a s f))) 43 (16 * s + f) x) t g = if t = s ∧ g = f then aFc a s f else aFk a t g := by
    intro t g
    show aU (aFk a) s (aU (aFk a s) f (aFc a s f)) t g = _
    unfold aU
    by_cases q : t = s
    · rw [if_pos q]
      by_cases z : g = f
      · rw [if_pos z, if_pos ⟨q, z⟩]
      · rw [if_neg z, if_neg (fun y => z y.2), q]
    · rw [if_neg q, if_neg (fun y => q y.1)]
  have efc : aFc (aI (aFkS a s (aU (aFk a s) f (aFc a s f))) 43 (16 * s + f) x) = aFc a := rfl
  have hpg : ∀ t, t < 7 → KPg c' t (aFc (aI (aFkS a s (aU (aFk a s) f (aFc a s f))) 43 (16 * s + f) x) t) (aFk (aI (aFkS a s (aU (aFk a s) f (aFc a s f))) 43 (16 * s + f) x) t) := by
    intro t ht g hg
    by_cases q : t = s
    · subst q
      rw [efc]
      by_cases z : g = f
      · subst z
        rw [efk, if_pos ⟨rfl, rfl⟩]
        exact ⟨hp, hk, hsm, fun y => ⟨rfl, hsn y⟩, fun y => ⟨((h.2.2.2.2.2.2.2.2.2.1 t ht g hg).2.2.2.2 y).1, ((h.2.2.2.2.2.2.2.2.2.1 t ht g hg).2.2.2.2 y).1⟩⟩
      · rw [efk, if_neg (fun y => z y.2)]
        obtain ⟨y1, y2, y3, y4, y5⟩ := h.2.2.2.2.2.2.2.2.2.1 t ht g hg
        obtain ⟨i1, i2, i3⟩ := cpg_i g hg f hf
        obtain ⟨j1, j2, j3⟩ := cpg_i f hf g hg
        have n1 : 30 * t + cpg g ≠ 30 * t + cpg f := fun y => z (i1.mp (by omega))
        have n2 : 30 * t + cpg g ≠ 30 * t + ckp f := fun y => z (i3.mp (by omega)).1
        have n3 : 30 * t + ckp g ≠ 30 * t + cpg f := fun y => z (j3.mp (by omega)).1.symm
        have n4 : 30 * t + ckp g ≠ 30 * t + ckp f := fun y => z (i2.mp (by omega))
        refine ⟨PG_fr (fun w hw => ho _ w (pg_o hg).1 n1 n2 hw) y1, PG_fr (fun w hw => ho _ w (pg_o hg).2 n3 n4 hw) y2, fun w1 w2 => ?_, fun w => ⟨(y4 w).1, fun w2 => KSn_fr (fun u hu => ho _ u (pg_o hg).1 n1 n2 hu) ((y4 w).2 w2)⟩, y5⟩
        obtain ⟨m, m1, m2⟩ := y3 w1 w2
        exact ⟨m, (h3 g hg z).trans m1, m2⟩
    · have := KPg_ne hF (by decide) q (h.2.2.2.2.2.2.2.2.2.1 t ht) g hg
      rw [efk, if_neg (fun y => q y.1), efc]
      exact this
  have hlw : ∀ t, t < 7 → KLw c' (aI (aFkS a s (aU (aFk a s) f (aFc a s f))) 43 (16 * s + f) x) t := by
    intro t ht g hg
    show _ = if 43 = 43 ∧ 16 * t + g = 16 * s + f then x else aS a 43 (16 * t + g)
    by_cases q : t = s
    · subst q
      rw [hl g hg]
      by_cases z : g = f
      · rw [if_pos z, if_pos ⟨rfl, by rw [z]⟩]
      · rw [if_neg z, if_neg (fun y => z (by omega))]
        exact h.2.2.2.2.2.2.2.1 t ht g hg
    · rw [if_neg (fun y => q (by omega))]
      exact KLw_ne hF (by decide) q (h.2.2.2.2.2.2.2.1 t ht) g hg
  have hlt : KLt c' (aI (aFkS a s (aU (aFk a s) f (aFc a s f))) 43 (16 * s + f) x) v.1.1 := KLt_s (a := aI (aFkS a s (aU (aFk a s) f (aFc a s f))) 43 (16 * s + f) x) (hF 14 0 15 (by decide) (Or.inl (by decide))).2.2.2 (hF 14 0 16 (by decide) (Or.inl (by decide))).2.2.2 (fun t _ => (hF 13 t 7 (by decide) (Or.inl (by decide))).2.2.2) hT (fun ad g _ _ hg => hF 8 ad g (by omega) (Or.inl ((by decide : ∀ g, g < 20 → 32 * 8 + g ∉ PD) g hg))) h.2.2.2.2.2.2.2.2.2.2.2.2.2.2.2.2.2.2.2.1
  have hsh : ∀ t, t < 7 → aS (aI (aFkS a s (aU (aFk a s) f (aFc a s f))) 43 (16 * s + f) x) 52 t = 1 → shOK (aI (aFkS a s (aU (aFk a s) f (aFc a s f))) 43 (16 * s + f) x) t := by
    intro t ht hu
    refine shOK_f (h.2.2.2.2.2.2.2.2.2.2.2.2.2.2.2.2.2.2.2.2.2.1 t ht (by rw [← hu]; exact (aS_If (by decide)).symm)) (aS_If (by decide)) (aS_If (by decide)) rfl (fun g hg => ?_)
    rw [efc]
  have e : ∀ g, g ≠ 43 → ∀ i, aS (aI (aFkS a s (aU (aFk a s) f (aFc a s f))) 43 (16 * s + f) x) g i = aS a g i := fun g hg i => aS_If hg
  refine ⟨KSc_al (KSc_fr hF (by decide) h.1) (fun G hG i => e G (fun z => by
      have := (by decide : ∀ G ∈ sT.map (fun x => x.1), G ≠ 43) G hG
      exact this z) i), fun t ht hu => ?_, fun t ht => ?_, fun t ht hr => ?_, fun t ht hu => ?_, ?_, ?_, hlw, fun t ht => KG_fr hF (by decide) (h.2.2.2.2.2.2.2.2.1 t ht), hpg, fun t ht => KCh_fr hF (by decide) (h.2.2.2.2.2.2.2.2.2.2.1 t ht), fun t ht => KMc_fr hF (by decide) (h.2.2.2.2.2.2.2.2.2.2.2.1 t ht), fun t ht => ?_, fun k hk => ?_, fun k hk => KDn_fr hF (by decide) (h.2.2.2.2.2.2.2.2.2.2.2.2.2.2.1 k hk), KAk_fr hF (by decide) h.2.2.2.2.2.2.2.2.2.2.2.2.2.2.2.1, KFc_fr hF (by decide) h.2.2.2.2.2.2.2.2.2.2.2.2.2.2.2.2.1, fun t ht => ?_, fun k hk => KIc_fr hF (by decide) (h.2.2.2.2.2.2.2.2.2.2.2.2.2.2.2.2.2.2.1 k hk), hlt, hr, hsh, nwOK_I (a := aFkS a s (aU (aFk a s) f (aFc a s f))) h.2.2.2.2.2.2.2.2.2.2.2.2.2.2.2.2.2.2.2.2.2.2 (by decide)⟩
  · rw [e 46 (by decide)]
    rw [e 52 (by decide)] at hu
    exact KFr_fr hF (by decide) (h.2.1 t ht hu)
  · rw [e 78 (by decide)]
    exact KHd_fr hF (by decide) (h.2.2.1 t ht)
  · rw [e 73 (by decide)] at hr
    have := KLd_fr hF (by decide) (h.2.2.2.1 t ht hr)
    unfold KLd at this ⊢
    simp only [e 82 (by decide), e 83 (by decide), e 86 (by decide), e 87 (by decide), e 88 (by decide), e 89 (by decide), e 90 (by decide), e 91 (by decide), e 92 (by decide), e 93 (by decide)]
    exact this
  · rw [e 52 (by decide)] at hu
    rw [e 151 (by decide)]
    exact KRq_fr hF (by decide) (h.2.2.2.2.1 t ht hu)
  · have := KBl_fr hF (by decide) h.2.2.2.2.2.1
    unfold KBl aBn aBt at this ⊢
    simp only [e 29 (by decide), e 30 (by decide), e 31 (by decide), e 32 (by decide)]
    exact this
  · have := KDa_fr hF (by decide) h.2.2.2.2.2.2.1
    unfold KDa at this ⊢
    simp only [e 23 (by decide), e 72 (by decide)]
    exact this
  · rw [e 69 (by decide), e 70 (by decide)]
    exact KPc_fr hF (by decide) (h.2.2.2.2.2.2.2.2.2.2.2.2.1 t ht)
  · rw [e 124 (by decide), e 137 (by decide), e 131 (by decide), e 130 (by decide)]
    exact KCl_fr hF (by decide) (h.2.2.2.2.2.2.2.2.2.2.2.2.2.1 k hk)
  · rw [e 145 (by decide)]
    exact KId_fr hF (by decide) (h.2.2.2.2.2.2.2.2.2.2.2.2.2.2.2.2.2.1 t ht)
theorem K_syncFile {c : CS} {a : AA} {v : CV} {s f : Nat} (h : RC c a v) (hs : s < 7) (hf : f < 16) : WP (k_Disk_syncFile c s (Int32.ofNat f)) (fun c' => RC c' (aSyncFile a s f) v ∧ (∀ cl i g, cl ≠ 11 → cl ≠ 6 → Sm c c' cl i g) ∧ ∀ g, g ≠ 2 → g ≠ 3 → Sm c c' 6 s g) := by
  obtain ⟨y1, y2, y3, y4, y5⟩ := h.2.2.2.2.2.2.2.2.2.1 s hs f hf
  have ow1 : cOwn 11 (30 * s + ckp f) = s := (if_pos rfl).trans (pg_o hf).2
  unfold k_Disk_syncFile k_Disk_syncFile_b0 k_Disk_syncFile_b51
  rw [cix1 hf, cix0 hf]
  refine WP_b (WP_b ?_)
  by_cases q : 30 * s + ckp f = 30 * s + cpg f
  · rw [if_pos (eq_true q |>.trans (eq_true rfl).symm)]
    have h23 : f = 2 ∨ f = 3 := ((cpg_i f hf f hf).2.2.mp (by omega)).2
    refine WP_b ?_
    rw [y1.2.1]
    refine WP_eq (cwr_n rfl (show f < 16 from hf) (by omega)) (WP_some ?_)
    have hF : Ck [194] s c (csI c 6 s 2 f ((aFc a s f).1 1)) := Ck_I (cl := 6) (i := s) (f := 2) (Or.inr rfl)
    refine ⟨?_, fun cl i g n1 n2 => ⟨fun j => csI_cl n2, fun _ => rfl, rfl, rfl⟩, fun g n1 _ => ⟨fun j => csI_f n1, fun _ => rfl, rfl, rfl⟩⟩
    refine RC_pgk h hs hf (Ck_w hF (by decide)) (Nat.le_refl _) (KRm_fr hF rfl (by decide) h.2.2.2.2.2.2.2.2.2.2.2.2.2.2.2.2.2.2.2.2.1) ?_ ?_ (fun z1 z2 => by omega) (fun _ z => ?_) (fun q g _ _ _ _ => ⟨fun j => csI_cl (by decide), fun _ => rfl, rfl, rfl⟩) (fun g _ _ => csI_f (by decide)) (fun g _ => ?_)
    · exact PG_fr (c := c) (fun g _ => ⟨fun j => csI_cl (by decide), fun _ => rfl, rfl, rfl⟩) y1
    · rw [q]
      exact PG_fr (c := c) (fun g _ => ⟨fun j => csI_cl (by decide), fun _ => rfl, rfl, rfl⟩) y1
    · exact KSn_fr (c := c) (fun g _ => ⟨fun j => csI_cl (by decide), fun _ => rfl, rfl, rfl⟩) ((y4 h23).2 z)
    · by_cases z : g = f
      · rw [if_pos z, z, csI_e]
      · rw [if_neg z, csI_j z]
  · rw [if_neg (fun z => q (of_eq_true (z.trans (eq_true rfl))))]
    have h23 : f ≠ 2 ∧ f ≠ 3 := by
      refine ⟨fun z => q ?_, fun z => q ?_⟩ <;> subst z <;> rfl
    obtain ⟨m, e3, m1, m2, me⟩ := y3 h23.1 h23.2
    refine WP_b (WP_b ?_)
    refine WP_eq (crd_n rfl (show f < 16 from hf) (by omega)) ?_
    rw [e3]
    have room : (aWhole (aFc a s f)).length = 0 ∨ (30 * s + ckp f < 210 ∧ 6 ≤ (30 * s + ckp f) % 30) := by
      by_cases z : f < 4
      · left
        have e := (y5 z).1
        unfold aWhole
        rw [e]
        rfl
      · exact Or.inr ⟨(pg_t hs hf).2, (pg_6 hf (by omega)).2⟩
    refine WP_call (K_takeOver y2 y1 q m1 m2 me room (cap_7 h.2.2.2.2.2.2.2.2.2.2.2.2.2.2.2.2.2.2.2.2.1 (pg_t hs hf).2)) (fun c1 hc1 => ?_)
    obtain ⟨p1, p2, p3, p4⟩ := hc1
    have y1' : PG c1 (30 * s + cpg f) (aFc a s f) := PG_fr (c := c) (fun g _ => p4 11 _ g (fun w => q w.2.1.symm)) y1
    refine WP_b ?_
    rw [y1'.2.2.2.2.2.1]
    refine WP_eq (cwr_n rfl (show f < 16 from hf) (by omega)) (WP_b ?_)
    rw [show cI (csI c1 6 s 3 f (Int32.ofNat (aWhole (aFc a s f)).length)) 11 (30 * s + cpg f) 1 0 = (aFc a s f).1 1 from (csI_cl (by decide)).trans y1'.2.1]
    refine WP_eq (cwr_n rfl (show f < 16 from hf) (by omega)) (WP_some ?_)
    have hF1 : Ck [352, 353, 354, 355, 356, 357, 358, 359] s c c1 := by
      intro cl i g _ z
      refine p4 cl i g (fun w => ?_)
      obtain ⟨w1, w2, w3⟩ := w
      subst w1
      subst w2
      rcases z with z | ⟨_, z⟩
      · exact z ((by decide : ∀ g, g < 8 → 32 * 11 + g ∈ [352, 353, 354, 355, 356, 357, 358, 359]) g w3)
      · exact z ow1
    have hF : Ck [352, 353, 354, 355, 356, 357, 358, 359, 195, 194] s c (csI (csI c1 6 s 3 f (Int32.ofNat (aWhole (aFc a s f)).length)) 6 s 2 f ((aFc a s f).1 1)) := Ck_w (Ck_t (Ck_t hF1 (Ck_I (Or.inr rfl))) (Ck_I (Or.inr rfl))) (by decide)
    have e6 : ∀ g j, cI c1 6 s g j = cI c 6 s g j := fun g j => (p4 6 s g (fun w => absurd w.1 (by decide))).1 j
    have s2 : ∀ cl i g, cl ≠ 6 → Sm c1 (csI (csI c1 6 s 3 f (Int32.ofNat (aWhole (aFc a s f)).length)) 6 s 2 f ((aFc a s f).1 1)) cl i g := fun cl i g n => ⟨fun j => (csI_cl n).trans (csI_cl n), fun _ => rfl, rfl, rfl⟩
    refine ⟨?_, fun cl i g n1 n2 => Sm_t (p4 cl i g (fun w => n1 w.1)) (s2 cl i g n2), fun g n1 n2 => Sm_t (p4 6 s g (fun w => absurd w.1 (by decide))) ⟨fun j => (csI_f n1).trans (csI_f n2), fun _ => rfl, rfl, rfl⟩⟩
    refine RC_pgk h hs hf (Ck_w hF (by decide)) p3 (KRm_eq (c := c1) rfl rfl rfl (p2 v h.2.2.2.2.2.2.2.2.2.2.2.2.2.2.2.2.2.2.2.2.1)) ?_ ?_ (fun _ _ => ?_) (fun z => by omega) (fun q g hq n1 n2 hg => ?_) (fun g hg z => ?_) (fun g hg => ?_)
    · exact PG_fr (fun g _ => s2 11 _ g (by decide)) y1'
    · exact PG_fr (fun g _ => s2 11 _ g (by decide)) p1
    · exact ⟨_, (csI_f (by decide)).trans csI_e, Nat.le_refl _, Nat.le_refl _, rfl⟩
    · exact Sm_t (p4 11 q g (fun w => n2 w.2.1)) (s2 11 q g (by decide))
    · rw [csI_f (by decide), csI_j z, e6]
    · by_cases z : g = f
      · rw [if_pos z, z, csI_e]
      · rw [if_neg z, csI_j z, csI_f (by decide), e6]
theorem AFr_syncFs {a : AA} {s : Nat} : ∀ n, AFr [43] [7] a (aSyncFiles a s n) := by
  intro n
  induction n with
  | zero => exact AFr_w AFr_r (by decide) (by decide)
  | succ n ih =>
    refine AFr_w (AFr_t ih (W' := [43]) (T' := [7]) ?_) (by decide) (by decide)
    have h1 : AFr [] [7] (aSyncFiles a s n) (aFkS (aSyncFiles a s n) s (aU (aFk (aSyncFiles a s n) s) n (aFc (aSyncFiles a s n) s n))) := ⟨fun _ _ _ => rfl, fun _ => rfl, fun _ => rfl, fun _ => rfl, fun _ => rfl, fun _ => rfl, fun _ => rfl, fun _ => rfl, fun z => absurd List.mem_cons_self z, fun _ => rfl, fun _ => rfl, fun _ => rfl, fun _ => rfl, fun _ => rfl, fun _ => rfl⟩
    exact AFr_w (AFr_t h1 AFr_I) (by decide) (by decide)
/-- a server's number that a bit of the class's holds -/
theorem RC_46' {c : CS} {a : AA} {v : CV} {s : Nat} (h : RC c a v) (hs : s < 7) : RC (csI c 6 s 7 0 0) (aI a 46 s 0) v := by
  have hF : Ck [199] s c (csI c 6 s 7 0 0) := Ck_I (cl := 6) (i := s) (f := 7) (Or.inr rfl)
  have e : ∀ f, f ∉ [46] → ∀ i, aS (aI a 46 s 0) f i = aS a f i := fun f hf i => aS_If (fun z => hf (by rw [z]; exact List.mem_cons_self))
  have hfr : ∀ t, t < 7 → aS (aI a 46 s 0) 52 t = 1 → cI (csI c 6 s 7 0 0) 6 t 7 0 = aS (aI a 46 s 0) 46 t := by
    intro t ht hu
    by_cases q : t = s
    · subst q
      exact csI_e.trans (if_pos ⟨rfl, rfl⟩).symm
    · exact (csI_ne (fun z => q z.2.1)).trans ((h.2.1 t ht hu).trans (if_neg (fun z => q z.2)).symm)
  exact ⟨KSc_k hF (by decide) e (by decide) h.1, hfr, hd_k hF (by decide) e (by decide) h.2.2.1, ld_k hF (by decide) e (by decide) h.2.2.2.1, rq_k hF (by decide) e (by decide) rfl h.2.2.2.2.1, bl_k hF (by decide) e (by decide) h.2.2.2.2.2.1, da_k hF (by decide) e (by decide) rfl h.2.2.2.2.2.2.1, lw_k hF (by decide) e (by decide) h.2.2.2.2.2.2.2.1, fun s hs => KG_fr hF (by decide) (h.2.2.2.2.2.2.2.2.1 s hs), fun s hs => KPg_fr hF (by decide) (h.2.2.2.2.2.2.2.2.2.1 s hs), fun s hs => KCh_fr hF (by decide) (h.2.2.2.2.2.2.2.2.2.2.1 s hs), fun s hs => KMc_fr hF (by decide) (h.2.2.2.2.2.2.2.2.2.2.2.1 s hs), pc_k hF (by decide) e (by decide) rfl h.2.2.2.2.2.2.2.2.2.2.2.2.1, cl_k hF (by decide) e (by decide) h.2.2.2.2.2.2.2.2.2.2.2.2.2.1, fun k hk => KDn_fr hF (by decide) (h.2.2.2.2.2.2.2.2.2.2.2.2.2.2.1 k hk), KAk_fr hF (by decide) h.2.2.2.2.2.2.2.2.2.2.2.2.2.2.2.1, KFc_fr hF (by decide) h.2.2.2.2.2.2.2.2.2.2.2.2.2.2.2.2.1, id_k hF (by decide) e (by decide) h.2.2.2.2.2.2.2.2.2.2.2.2.2.2.2.2.2.1, fun k hk => KIc_fr hF (by decide) (h.2.2.2.2.2.2.2.2.2.2.2.2.2.2.2.2.2.2.1 k hk), KLt_fr hF rfl (by decide) h.2.2.2.2.2.2.2.2.2.2.2.2.2.2.2.2.2.2.2.1, KRm_fr hF rfl (by decide) h.2.2.2.2.2.2.2.2.2.2.2.2.2.2.2.2.2.2.2.2.1, sh_k e (by decide) rfl rfl h.2.2.2.2.2.2.2.2.2.2.2.2.2.2.2.2.2.2.2.2.2.1, nw_k e (by decide) h.2.2.2.2.2.2.2.2.2.2.2.2.2.2.2.2.2.2.2.2.2.2⟩
theorem K_syncAll {F : Nat} {c : CS} {a : AA} {v : CV} {s : Nat} (hF : 20 ≤ F) (h : RC c a v) (hs : s < 7) : WP (k_Disk_syncAll F c s) (fun c' => RC c' (aI (aSyncFiles a s 16) 46 s 0) v) := by
  unfold k_Disk_syncAll k_Disk_syncAll_b0
  have key : ∀ n p c, 17 ≤ p + n → p ≤ 16 → RC c (aSyncFiles a s p) v → WP (k_Disk_syncAll_b2 F n c s (Int32.ofNat p)) (fun c' => RC c' (aI (aSyncFiles a s 16) 46 s 0) v) := by
    intro n
    induction n with
    | zero => intro p c h1 h2; omega
    | succ n ih =>
      intro p c h1 h2 h3
      unfold k_Disk_syncAll_b2
      dsimp only
      by_cases q : p = 16
      · subst q
        rw [if_pos (by decide)]
        unfold cputZ
        rw [if_pos (Or.inl rfl)]
        exact WP_b (WP_some (RC_46' h3 hs))
      · rw [if_neg (fun y => by
          rw [show (16 : Int32) = Int32.ofNat 16 from rfl] at y
          have := (i_gei (by omega) (by omega)).mp y
          omega)]
        refine WP_call (K_syncFile h3 hs (by omega)) (fun c1 h4 => ?_)
        rw [i_s]
        exact ih (p + 1) c1 (by omega) (by omega) h4.1
  exact key F 0 c (by omega) (by omega) h
