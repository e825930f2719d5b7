/-! the machine: a session is opened, an operation is done -/
theorem crd_P {K I cl i f : Nat} {fs : List Nat} {c c' : CS} {j : Int32} (P : PX K I fs c c') (hc : cl ≠ K) : crd c' cl i f j = crd c cl i f j := by
  have e1 : cal c' cl i f = cal c cl i f := by
    unfold cal
    rw [P.2.2.1]
  have e2 : cI c' cl i f j.toNatClampNeg = cI c cl i f j.toNatClampNeg := PX_c P hc
  unfold crd
  rw [e1, e2]
theorem opt_if {C : Prop} [Decidable C] {x y : AM} {f : AM → AM} (e : f y = x) : (if C then none else some x) = (if C then none else some y).map f := by
  by_cases q : C
  · rw [if_pos q, if_pos q]
    rfl
  · rw [if_neg q, if_neg q, ← e]
    rfl
theorem keep_S {S S' : List AN} {L : List (List Int32 × List Int32)} {k v : List Int32} : aKeep (S, L) k v = (aKeep (S', L) k v).map (fun m => (S, m.2)) := by
  unfold aKeep
  exact opt_if rfl
theorem opR_S {S S' : List AN} {L : List (List Int32 × List Int32)} {k v : List Int32} : opR (S, L) k v = ((S, (opR (S', L) k v).1.2), (opR (S', L) k v).2) := by
  unfold opR
  rw [keep_S (S := S) (S' := S')]
  have eF : aFind (S, L) k = aFind (S', L) k := rfl
  rw [eF]
  cases aKeep (S', L) k v with
  | none => rfl
  | some M' => rfl
theorem swR_S {S S' : List AN} {L : List (List Int32 × List Int32)} {k o v : List Int32} : swR (S, L) k o v = ((S, (swR (S', L) k o v).1.2), (swR (S', L) k o v).2) := by
  unfold swR
  rw [keep_S (S := S) (S' := S')]
  have eF : aFind (S, L) k = aFind (S', L) k := rfl
  rw [eF]
  cases aFind (S', L) k with
  | none => rfl
  | some w =>
    dsimp only
    by_cases q : w = o
    · rw [if_pos q, if_pos q]
      cases aKeep (S', L) k v with
      | none => rfl
      | some M' => rfl
    · rw [if_neg q, if_neg q]
theorem rmR_S {S S' : List AN} {L : List (List Int32 × List Int32)} {k : List Int32} : rmR (S, L) k = ((S, (rmR (S', L) k).1.2), (rmR (S', L) k).2) := by
  unfold rmR
  have eF : aFind (S, L) k = aFind (S', L) k := rfl
  rw [eF]
  cases aFind (S', L) k with
  | none => rfl
  | some w => rfl
theorem op_S {S S' : List AN} {L : List (List Int32 × List Int32)} {kd : Int32} {k v : Nat} {b : List Int32} : aOp (S, L) kd k v b = ((S, (aOp (S', L) kd k v b).1.2), (aOp (S', L) kd k v b).2) := by
  rw [aOp_R, aOp_R]
  by_cases q0 : kd = 0
  · rw [if_pos q0, if_pos q0]
    exact opR_S
  · rw [if_neg q0, if_neg q0]
    by_cases q1 : kd = 1
    · rw [if_pos q1, if_pos q1]
      exact swR_S
    · rw [if_neg q1, if_neg q1]
      exact rmR_S
theorem op_cM {M : AM} {kd : Int32} {k v : Nat} {b : List Int32} : aOp (cM M) kd k v b = (((cM M).1, (aOp M kd k v b).1.2), (aOp M kd k v b).2) := op_S (S := (cM M).1) (S' := M.1) (L := M.2)
theorem wfM_kp {M M' : AM} {k v : List Int32} (w : wfM M) (hk : k.length ≤ 32) (hv : v.length ≤ 100) (bk : ∀ b ∈ k, aLow8 b = b) (bv : ∀ b ∈ v, aLow8 b = b) (e : aKeep M k v = some M') : wfM M' := by
  have h128 : M.2.length ≤ 128 := w.2.1
  have hr : aRank M k ≤ M.2.length := aRank_le
  rcases find2 w bk (by omega) with ⟨ef, _⟩ | ⟨z, ek, ef, _⟩
  · have kn := keep_n (v := v) ef
    rw [e] at kn
    by_cases y : M.2.length = 128 ∨ 700 < aUnits M + aUnit k.length v.length
    · rw [if_pos y] at kn
      cases kn
    · rw [if_neg y] at kn
      rw [Option.some.inj kn]
      refine wfM_keep (d := 0) w hk hv bk bv ?_ ?_
      · rw [List.length_append, List.length_cons, List.length_take, List.length_drop]
        omega
      · have := @un_ins M k v (aRank M k)
        show aUnits (M.1, M.2.take (aRank M k) ++ (k, v) :: M.2.drop (aRank M k)) ≤ 700
        omega
  · have kn := keep_f (v := v) z ef
    rw [e] at kn
    by_cases y : 700 < aUnits M - aUnit k.length (M.2.getD (aRank M k) ([], [])).2.length + aUnit k.length v.length
    · rw [if_pos y] at kn
      cases kn
    · rw [if_neg y] at kn
      rw [Option.some.inj kn, set_td z]
      refine wfM_keep (d := 1) w hk hv bk bv ?_ ?_
      · rw [List.length_append, List.length_cons, List.length_take, List.length_drop]
        omega
      · have := un_rep (M := M) (k := k) (v := v) z
        rw [ek] at this
        omega
theorem wfM_er {M : AM} {r : Nat} (w : wfM M) : wfM (M.1, M.2.eraseIdx r) := by
  refine ⟨⟨w.1.1, Nat.le_trans un_del w.1.2⟩, ?_, w.2.2.1, fun e he => w.2.2.2 e (List.mem_of_mem_eraseIdx he)⟩
  have : (M.2.eraseIdx r).length ≤ M.2.length := (List.eraseIdx_sublist _ _).length_le
  exact Nat.le_trans this w.2.1
theorem wfM_op {M : AM} {k : AK} (w : wfM M) (hk : wfK k) (h3 : k.1 1 < 3) : wfM (aOp M (k.1 1) (k.1 7).toNatClampNeg (k.1 8).toNatClampNeg k.2).1 := by
  obtain ⟨kd, f, v, a1, a2, a3, a4, a5, a6, a7, a8, a9, g0, g1, _, _⟩ := ask_nat hk
  have bb := hk.2.2
  rw [a1] at h3
  have hkd : kd < 3 := by
    rw [show (3 : Int32) = Int32.ofNat 3 from rfl, Int32.lt_iff_toInt_lt, Int32.toInt_ofNat_of_lt (by omega), Int32.toInt_ofNat_of_lt (by omega)] at h3
    omega
  rw [a1, a3, a6, i_cl (by omega), i_cl (by omega), aOp_R]
  have l1 : (k.2.take f).length ≤ 32 := by
    rw [List.length_take]
    omega
  have b1 : ∀ b ∈ k.2.take f, aLow8 b = b := fun b hb => bb b (List.mem_of_mem_take hb)
  have bd : ∀ m, ∀ b ∈ k.2.drop m, aLow8 b = b := fun m b hb => bb b (List.mem_of_mem_drop hb)
  by_cases q0 : Int32.ofNat kd = 0
  · rw [if_pos q0]
    have : kd = 0 := (i_eqi (q := 0) (by omega) (by omega)).mp q0
    have l2 : (k.2.drop f).length ≤ 100 := by
      rw [List.length_drop]
      exact g0 this
    unfold opR
    cases e : aKeep M (k.2.take f) (k.2.drop f) with
    | none => exact w
    | some M' => exact wfM_kp w l1 l2 b1 (bd f) e
  · rw [if_neg q0]
    by_cases q1 : Int32.ofNat kd = 1
    · rw [if_pos q1]
      have : kd = 1 := (i_eqi (q := 1) (by omega) (by omega)).mp q1
      have l2 : (k.2.drop (f + v)).length ≤ 100 := by
        rw [List.length_drop]
        have := g1 this
        omega
      unfold swR
      cases aFind M (k.2.take f) with
      | none => exact w
      | some x =>
        dsimp only
        by_cases y : x = (k.2.drop f).take v
        · rw [if_pos y]
          cases e : aKeep M (k.2.take f) (k.2.drop (f + v)) with
          | none => exact w
          | some M' => exact wfM_kp w l1 l2 b1 (bd _) e
        · rw [if_neg y]
          exact w
    · rw [if_neg q1]
      unfold rmR
      cases aFind M (k.2.take f) with
      | none => exact w
      | some x => exact wfM_er w
/-- only what is done of a server's machine and its answer changed -/
def m13 : List Nat := [1, 2, 3, 4, 5, 6, 7, 8, 9, 10, 11, 12, 13]
theorem RC_mc {c c' : CS} {a : AA} {v : CV} {s : Nat} {M : AM} (h : RC c a v) (P : PX 10 s m13 c c') (hM : KMc c' s M) : RC c' (aMcS a s M) v := by
  have hF : Ck [321, 322, 323, 324, 325, 326, 327, 328, 329, 330, 331, 332, 333] s c c' := PX_k P (Or.inr rfl) (by decide)
  have hT := P.2.1
  have hl : ∀ t, t < 7 → KMc c' t (aMc (aMcS a s M) t) := by
    intro t ht
    have e : aMc (aMcS a s M) t = if t = s then M else aMc a t := rfl
    rw [e]
    by_cases q : t = s
    · rw [if_pos q, q]
      exact hM
    · rw [if_neg q]
      exact KMc_ne hF (by decide) q (h.2.2.2.2.2.2.2.2.2.2.2.1 t ht)
  exact ⟨KSc_fr hF (by decide) h.1, fun s hs hu => KFr_fr hF (by decide) (h.2.1 s hs hu), fun s hs => KHd_fr hF (by decide) (h.2.2.1 s hs), fun s hs hr => KLd_fr hF (by decide) (h.2.2.2.1 s hs hr), fun s hs hu => KRq_fr hF (by decide) (h.2.2.2.2.1 s hs hu), KBl_fr hF (by decide) h.2.2.2.2.2.1, KDa_fr hF (by decide) h.2.2.2.2.2.2.1, fun s hs => KLw_fr hF (by decide) (h.2.2.2.2.2.2.2.1 s hs), fun s hs => KG_fr hF (by decide) (h.2.2.2.2.2.2.2.2.1 s hs), fun s hs => KPg_fr hF (by decide) (h.2.2.2.2.2.2.2.2.2.1 s hs), fun s hs => KCh_fr hF (by decide) (h.2.2.2.2.2.2.2.2.2.2.1 s hs), hl, fun s hs => KPc_fr hF (by decide) (h.2.2.2.2.2.2.2.2.2.2.2.2.1 s hs), fun k hk => KCl_fr hF (by decide) (h.2.2.2.2.2.2.2.2.2.2.2.2.2.1 k hk), fun k hk => KDn_fr hF (by decide) (h.2.2.2.2.2.2.2.2.2.2.2.2.2.2.1 k hk), KAk_fr hF (by decide) h.2.2.2.2.2.2.2.2.2.2.2.2.2.2.2.1, KFc_fr hF (by decide) h.2.2.2.2.2.2.2.2.2.2.2.2.2.2.2.2.1, fun s hs => KId_fr hF (by decide) (h.2.2.2.2.2.2.2.2.2.2.2.2.2.2.2.2.2.1 s hs), fun k hk => KIc_fr hF (by decide) (h.2.2.2.2.2.2.2.2.2.2.2.2.2.2.2.2.2.2.1 k hk), KLt_fr hF hT (by decide) h.2.2.2.2.2.2.2.2.2.2.2.2.2.2.2.2.2.2.2.1, KRm_fr hF hT (by decide) h.2.2.2.2.2.2.2.2.2.2.2.2.2.2.2.2.2.2.2.2.1, h.2.2.2.2.2.2.2.2.2.2.2.2.2.2.2.2.2.2.2.2.2.1, h.2.2.2.2.2.2.2.2.2.2.2.2.2.2.2.2.2.2.2.2.2.2⟩
theorem shN_wf {M : AM} (w : wfMc M) : shN (cM M).1 := ⟨by rw [cM_len]; exact w.1.1.1, fun x hx => w.2.1 x (cM_perm.mem_iff.mp hx)⟩
/-- what the numbers of sessions are below -/
def sBel (M : AM) (n : Int32) : Prop := ∀ x ∈ M.1, x.1 < n ∧ x.2.1 < n
theorem wfMc_app {M : AM} {L : List AN} {n : Int32} (w : wfMc M) (hb : sBel M n) (hn : 0 ≤ n) (sub : ∀ x ∈ L, x ∈ M.1) (n1 : (L.map (fun x => x.1)).Nodup) (n2 : (L.map (fun x => x.2.1)).Nodup) (hl : L.length ≤ 15) : wfMc (L ++ [(n, n, 0, 0, [])], M.2) := by
  obtain ⟨⟨⟨w1, w2⟩, w3, w4, w5⟩, w6, w7, w8, w9⟩ := w
  have hm : ∀ x ∈ L ++ [((n, n, 0, 0, []) : AN)], x ∈ M.1 ∨ x = (n, n, 0, 0, []) := by
    intro x hx
    rcases List.mem_append.mp hx with z | z
    · exact Or.inl (sub x z)
    · exact Or.inr (List.mem_singleton.mp z)
  have nd : ∀ f : AN → Int32, (∀ x ∈ M.1, f x < n) → f (n, n, 0, 0, []) = n → (L.map f).Nodup → ((L ++ [((n, n, 0, 0, []) : AN)]).map f).Nodup := by
    intro f hf he hnd
    rw [List.map_append, List.nodup_append]
    refine ⟨hnd, by simp, fun x hx y hy e => ?_⟩
    obtain ⟨z, hz, rfl⟩ := List.mem_map.mp hx
    have hy : y = n := by
      have : y = f (n, n, 0, 0, []) := by simpa using hy
      rw [this, he]
    have := hf z (sub z hz)
    rw [e, hy] at this
    exact Int32.lt_irrefl this
  refine ⟨⟨⟨?_, w2⟩, w3, fun x hx => ?_, w5⟩, fun x hx => ?_, nd _ (fun x hx => (hb x hx).1) rfl n1, nd _ (fun x hx => (hb x hx).2) rfl n2, fun x hx => ?_⟩
  · show (L ++ [((n, n, 0, 0, []) : AN)]).length ≤ 16
    rw [List.length_append, List.length_singleton]
    omega
  · rcases hm x hx with z | z
    · exact w4 x z
    · rw [z]
      exact ⟨Nat.zero_le _, fun b hb => absurd hb List.not_mem_nil⟩
  · rcases hm x hx with z | z
    · exact w6 x z
    · rw [z]
      exact Nat.zero_le _
  · rcases hm x hx with z | z
    · exact w9 x z
    · rw [z]
      exact ⟨hn, hn⟩
theorem take_perm {L : List AN} {o : Nat} (hl : L.length = 16) (ho : o < 16) : ((L.set o (L.getD 15 aN0)).take 15).Perm (L.eraseIdx o) := by
  have hlen : (L.set o (L.getD 15 aN0)).length = 16 := by
    rw [List.length_set]
    exact hl
  have hz : (L.set o (L.getD 15 aN0)).getD 15 aN0 = L.getD 15 aN0 := by
    rw [getD_set (by omega)]
    by_cases q : 15 = o
    · rw [if_pos q]
    · rw [if_neg q]
  have e : L.set o (L.getD 15 aN0) = (L.set o (L.getD 15 aN0)).take 15 ++ [L.getD 15 aN0] := by
    have h1 := List.take_append_drop 15 (L.set o (L.getD 15 aN0))
    have h2 : (L.set o (L.getD 15 aN0)).drop 15 = [L.getD 15 aN0] := by
      rw [getD_drop (d := aN0) (by omega), hz, List.drop_of_length_le (by omega)]
    rw [h2] at h1
    exact h1.symm
  have p1 : (L.set o (L.getD 15 aN0)).Perm (L.getD 15 aN0 :: L.eraseIdx o) := perm_set (by omega)
  have p2 : ((L.set o (L.getD 15 aN0)).take 15 ++ [L.getD 15 aN0]).Perm (L.getD 15 aN0 :: (L.set o (L.getD 15 aN0)).take 15) := List.perm_append_singleton _ _
  rw [← e] at p2
  exact List.Perm.cons_inv (p2.symm.trans p1)
theorem cM_app {M : AM} {S L : List AN} {n : Int32} (hs : S.Pairwise sLt) (hp : S.Perm L) (hb : ∀ x ∈ S, x.1 < n) (hM : M.1 = L ++ [(n, n, 0, 0, [])]) : (cM M).1 = S ++ [(n, n, 0, 0, [])] := by
  refine cM_uniq ?_ ?_
  · rw [List.pairwise_append]
    refine ⟨hs, List.pairwise_singleton _ _, fun x hx y hy => ?_⟩
    rw [List.mem_singleton.mp hy]
    exact hb x hx
  · rw [hM]
    exact hp.append_right _
theorem K_openSes {F : Nat} {c : CS} {s : Nat} {M : AM} {n : Int32} (hF : 20 ≤ F) (h : KMc c s M) (hb : sBel M n) (hn : 0 ≤ n) : WP (k_Machine_openSession F c s n) (fun c' => PX 10 s [1, 2, 3] c c' ∧ KMc c' s (aOpen M n)) := by
  obtain ⟨w, h0⟩ := h
  have hsh := shN_wf w
  have hl := @cM_len M
  have h16 : M.1.length ≤ 16 := w.1.1.1
  obtain ⟨h1, h4, h5, hS, f, hK⟩ := KM0_f h0
  have hsrt := cM_srt w.2.2.1
  have hbS : ∀ x ∈ (cM M).1, x.1 < n := fun x hx => (hb x (cM_perm.mem_iff.mp hx)).1
  have fin : ∀ {c' : CS} {S L : List AN}, PX 10 s [1, 2, 3] c c' → S.Pairwise sLt → S.Perm L → (∀ x ∈ L, x ∈ M.1) → aOpen M n = (L ++ [(n, n, 0, 0, [])], M.2) → cI c' 10 s 1 0 = Int32.ofNat (S.length + 1) → KSs c' s (S ++ [(n, n, 0, 0, [])]) → KM0 c' s (cM (aOpen M n)) := by
    intro c' S L P g1 g2 g3 g4 g5 g6
    have e : cM (aOpen M n) = (S ++ [(n, n, 0, 0, [])], M.2) := Prod.ext (cM_app g1 g2 (fun x hx => (hb x (g3 x (g2.mem_iff.mp hx))).1) (by rw [g4])) (by rw [g4]; rfl)
    rw [e]
    refine KM0_b (f := f) w.1.2.1 (g5.trans ?_) ((PX_o P (by decide)).trans h4) ((PX_o P (by decide)).trans h5) g6 (KMs_o hK (fun g hg j => PX_o P (by simp; omega)))
    show _ = Int32.ofNat (S ++ [((n, n, 0, 0, []) : AN)]).length
    rw [List.length_append, List.length_singleton]
  unfold k_Machine_openSession k_Machine_openSession_b0
  rw [h1, hl]
  refine WP_if c2_ne (fun z => ?_) (fun z => ?_)
  · have z16 : ¬ M.1.length = 16 := fun y => z (by rw [y]; rfl)
    have ea : aOpen M n = (M.1 ++ [(n, n, 0, 0, [])], M.2) := by
      unfold aOpen
      dsimp only
      rw [if_neg z16]
    refine WP_mono (K_open13 hS hsh h1 (by omega)) (fun c' hc => ⟨hc.1, ?_, fin hc.1 hsrt cM_perm (fun x hx => hx) ea hc.2.1 hc.2.2⟩)
    rw [ea]
    exact wfMc_app w hb hn (fun x hx => hx) w.2.2.1 w.2.2.2.1 (by omega)
  · have z16 : M.1.length = 16 := by
      have z : Int32.ofNat M.1.length = Int32.ofNat 16 := Classical.not_not.mp z
      exact (i_eqi (by omega) (by omega)).mp z
    refine WP_call (K_dropOld hF hS hsh h1 (by omega)) (fun c1 hc => ?_)
    obtain ⟨P, o, o1, o2, o3, o4⟩ := hc
    have ho := aOldest_spec M.1 (fun y => by rw [y] at z16; cases z16)
    have ea : aOpen M n = ((M.1.set (aOldest M.1) (M.1.getD 15 aN0)).take 15 ++ [(n, n, 0, 0, [])], M.2) := by
      unfold aOpen
      dsimp only
      rw [if_pos z16]
      rfl
    have e : (cM M).1[o] = M.1[aOldest M.1]'ho.1 := by
      have m1 : (cM M).1[o] ∈ M.1 := cM_perm.mem_iff.mp (List.getElem_mem o1)
      have m2 : M.1[aOldest M.1]'ho.1 ∈ (cM M).1 := cM_perm.mem_iff.mpr (List.getElem_mem ho.1)
      refine uniq_mem (f := fun x : AN => x.2.1) w.2.2.2.1 m1 (List.getElem_mem ho.1) (Int32.le_antisymm ?_ ?_)
      · obtain ⟨j, hj, ej⟩ := List.mem_iff_getElem.mp m2
        have := o2 j hj
        rw [getD_N o1, getD_N hj, ej] at this
        exact this
      · obtain ⟨j, hj, ej⟩ := List.mem_iff_getElem.mp m1
        have := ho.2.1 j hj
        rw [getD_N ho.1, getD_N hj, ej] at this
        exact this
    have hp1 : ((cM M).1.eraseIdx o).Perm (M.1.eraseIdx (aOldest M.1)) := erase_perm2 cM_perm o1 ho.1 e
    have hp2 := take_perm z16 (show aOldest M.1 < 16 by omega)
    have hsub : ∀ x ∈ (M.1.set (aOldest M.1) (M.1.getD 15 aN0)).take 15, x ∈ M.1 := fun x hx => List.mem_of_mem_eraseIdx (hp2.mem_iff.mp hx)
    have hse : ((cM M).1.eraseIdx o).Pairwise sLt := hsrt.sublist (List.eraseIdx_sublist _ _)
    have hle : ((cM M).1.eraseIdx o).length = (cM M).1.length - 1 := List.length_eraseIdx_of_lt o1
    have hsh1 : shN ((cM M).1.eraseIdx o) := ⟨by omega, fun x hx => hsh.2 x (List.mem_of_mem_eraseIdx hx)⟩
    refine WP_mono (K_open13 o4 hsh1 (by rw [o3, hle]) (by omega)) (fun c' hc => ⟨PX_t P hc.1, ?_, fin (PX_t P hc.1) hse (hp1.trans hp2.symm) hsub ea hc.2.1 hc.2.2⟩)
    rw [ea]
    have nd : ∀ f : AN → Int32, (M.1.map f).Nodup → (((M.1.set (aOldest M.1) (M.1.getD 15 aN0)).take 15).map f).Nodup := fun f hf => (hp2.map f).nodup_iff.mpr (hf.sublist ((List.eraseIdx_sublist _ _).map f))
    refine wfMc_app w hb hn hsub (nd _ w.2.2.1) (nd _ w.2.2.2.1) ?_
    rw [List.length_take]
    omega
