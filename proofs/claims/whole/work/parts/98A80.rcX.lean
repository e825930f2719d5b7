/-! the face: a throw's room; hosts; what is asked of the world, a server, a client -/
theorem RC_tick {c : CS} {a : AA} {v : CV} (h : RC c a v) : RC (ctick c) a (v.1, (v.2.1 + 1, v.2.2 + 6)) := by
  have hF : Ck [] 0 c (ctick c) := fun _ _ _ _ _ => ⟨fun _ => rfl, fun _ => rfl, rfl, rfl⟩
  obtain ⟨l1, l2⟩ := h.2.2.2.2.2.2.2.2.2.2.2.2.2.2.2.2.2.2.2.1
  obtain ⟨r1, r2, r3, r4⟩ := h.2.2.2.2.2.2.2.2.2.2.2.2.2.2.2.2.2.2.2.2.1
  have hlt : KLt (ctick c) a v.1.1 := ⟨fun x => ⟨(l1 x).1, fun y => Nat.lt_succ_of_lt ((l1 x).2 y)⟩, l2⟩
  have hrm : KRm (ctick c) (v.1, (v.2.1 + 1, v.2.2 + 6)) := by
    refine ⟨?_, ?_, r3, r4⟩
    · show 16 * ((cT c).1 + 1) ≤ 16 * (v.2.1 + 1) + 48 * nL c v.1.1 + gA gw1 c
      omega
    · show (cT c).2 + 6 ≤ v.2.2 + 6 + 256 * nL c v.1.1 + gA gw2 c
      omega
  exact ⟨KSc_fr hF (by decide) h.1, fun s hs hu => KFr_fr hF (by decide) (h.2.1 s hs hu), fun s hs => KHd_fr hF (by decide) (h.2.2.1 s hs), fun s hs hr => KLd_fr hF (by decide) (h.2.2.2.1 s hs hr), fun s hs hu => KRq_fr hF (by decide) (h.2.2.2.2.1 s hs hu), KBl_fr hF (by decide) h.2.2.2.2.2.1, KDa_fr hF (by decide) h.2.2.2.2.2.2.1, fun s hs => KLw_fr hF (by decide) (h.2.2.2.2.2.2.2.1 s hs), fun s hs => KG_fr hF (by decide) (h.2.2.2.2.2.2.2.2.1 s hs), fun s hs => KPg_fr hF (by decide) (h.2.2.2.2.2.2.2.2.2.1 s hs), fun s hs => KCh_fr hF (by decide) (h.2.2.2.2.2.2.2.2.2.2.1 s hs), fun s hs => KMc_fr hF (by decide) (h.2.2.2.2.2.2.2.2.2.2.2.1 s hs), fun s hs => KPc_fr hF (by decide) (h.2.2.2.2.2.2.2.2.2.2.2.2.1 s hs), fun k hk => KCl_fr hF (by decide) (h.2.2.2.2.2.2.2.2.2.2.2.2.2.1 k hk), fun k hk => KDn_fr hF (by decide) (h.2.2.2.2.2.2.2.2.2.2.2.2.2.2.1 k hk), KAk_fr hF (by decide) h.2.2.2.2.2.2.2.2.2.2.2.2.2.2.2.1, KFc_fr hF (by decide) h.2.2.2.2.2.2.2.2.2.2.2.2.2.2.2.2.1, fun s hs => KId_fr hF (by decide) (h.2.2.2.2.2.2.2.2.2.2.2.2.2.2.2.2.2.1 s hs), fun k hk => KIc_fr hF (by decide) (h.2.2.2.2.2.2.2.2.2.2.2.2.2.2.2.2.2.2.1 k hk), hlt, hrm, h.2.2.2.2.2.2.2.2.2.2.2.2.2.2.2.2.2.2.2.2.2.1, h.2.2.2.2.2.2.2.2.2.2.2.2.2.2.2.2.2.2.2.2.2.2⟩
theorem inR_t {x lo hi : Int32} : aInR x lo hi = true ↔ lo.toInt ≤ x.toInt ∧ x.toInt ≤ hi.toInt := by
  unfold aInR
  rw [Bool.and_eq_true_iff, decide_eq_true_eq, decide_eq_true_eq, Int32.le_iff_toInt_le, Int32.le_iff_toInt_le]
theorem inR_n {x lo hi : Int32} : aInR x lo hi = false ↔ ¬ (lo.toInt ≤ x.toInt ∧ x.toInt ≤ hi.toInt) := by
  rw [← inR_t, Bool.not_eq_true]
theorem g0_lt {x : Int32} : xc0 .lt x = true ↔ x.toInt < 0 := by rw [c0_lt, Int32.lt_iff_toInt_lt, i_0]
theorem g2_lt {x y : Int32} : xc2 .lt x y = true ↔ x.toInt < y.toInt := by rw [c2_lt, Int32.lt_iff_toInt_lt]
theorem g2_le {x y : Int32} : xc2 .le x y = true ↔ x.toInt ≤ y.toInt := by rw [c2_le, Int32.le_iff_toInt_le]
theorem g2_gt {x y : Int32} : xc2 .gt x y = true ↔ y.toInt < x.toInt := by rw [c2_gt, Int32.lt_iff_toInt_lt]
theorem g2_ge {x y : Int32} : xc2 .ge x y = true ↔ y.toInt ≤ x.toInt := by rw [c2_ge, Int32.le_iff_toInt_le]
theorem L_1 : (1 : Int32).toInt = 1 := by decide
theorem L_2 : (2 : Int32).toInt = 2 := by decide
theorem L_4 : (4 : Int32).toInt = 4 := by decide
theorem L_5 : (5 : Int32).toInt = 5 := by decide
theorem L_6 : (6 : Int32).toInt = 6 := by decide
theorem L_7 : (7 : Int32).toInt = 7 := by decide
theorem L_8 : (8 : Int32).toInt = 8 := by decide
theorem L_15 : (15 : Int32).toInt = 15 := by decide
theorem L_16 : (16 : Int32).toInt = 16 := by decide
theorem L_20 : (20 : Int32).toInt = 20 := by decide
theorem L_32 : (32 : Int32).toInt = 32 := by decide
theorem L_100 : (100 : Int32).toInt = 100 := by decide
theorem L_127 : (127 : Int32).toInt = 127 := by decide
theorem L_200 : (200 : Int32).toInt = 200 := by decide
theorem L_400 : (400 : Int32).toInt = 400 := by decide
theorem L_1000 : (1000 : Int32).toInt = 1000 := by decide
theorem L_1024 : (1024 : Int32).toInt = 1024 := by decide
theorem L_65535 : (65535 : Int32).toInt = 65535 := by decide
theorem L_65536 : (65536 : Int32).toInt = 65536 := by decide
theorem inR_6 {x : Int32} (h : aInR x 0 6 = true) : ∃ k, k < 7 ∧ x = Int32.ofNat k := by
  obtain ⟨n, e, hn⟩ := in_nat2 (hi := 6) (by omega) h
  exact ⟨n, by omega, e⟩
theorem K_host {c : CS} {k : Nat} (hk : k < 7) : k_Face_host c 0 (Int32.ofNat k) = some k := by
  unfold k_Face_host k_Face_host_b0
  have e := Int32.toInt_ofNat_of_lt (n := k) (by omega)
  rw [if_neg (fun z => by have z := g0_lt.mp z; omega), if_pos (g2_lt.mpr (by rw [L_7]; omega)), show cix 15 2 (Int32.ofNat k) = some k from cix_n rfl (show k < 7 from hk) (by omega)]
  rfl
theorem K_hostJ {c : CS} {x : Int32} (h : aInR x 0 6 = false) : k_Face_host_J c 0 x = some () := by
  have h := inR_n.mp h
  rw [i_0, L_6] at h
  unfold k_Face_host_J k_Face_host_J_b0 k_Face_host_J_b10
  by_cases q : x.toInt < 0
  · rw [if_pos (g0_lt.mpr q)]
  · rw [if_neg (fun z => q (g0_lt.mp z)), if_neg (fun z => by have z := g2_lt.mp z; rw [L_7] at z; omega)]
theorem K_askerJ {c : CS} {x : Int32} (h : aInR x 0 7 = false) : k_Face_asker_J c 0 x = some () := by
  have h := inR_n.mp h
  rw [i_0, L_7] at h
  unfold k_Face_asker_J k_Face_asker_J_b0 k_Face_asker_J_b10
  by_cases q : x.toInt < 0
  · rw [if_pos (g0_lt.mpr q)]
  · rw [if_neg (fun z => q (g0_lt.mp z)), if_neg (fun z => by have z := g2_lt.mp z; rw [L_8] at z; omega)]
/-- a call that changes nothing: its number, or a throw -/
def cVal (a : AA) (r : AR) (k : Option Int32) (j : Option Unit) : Prop := r.1 = a ∧ ((r.2.1 = 0 ∧ k = some r.2.2) ∨ (r.2.1 = 1 ∧ j = some ()))
def cVal2 (a : AA) (r : AR) (k : Option Int32) (j j2 : Option Unit) : Prop := r.1 = a ∧ ((r.2.1 = 0 ∧ k = some r.2.2) ∨ (r.2.1 = 1 ∧ (j = some () ∨ j2 = some ())))
theorem K_nowF {c : CS} {a : AA} {v : CV} (h : RC c a v) : k_Face_now c 0 = some (aNow a) := congrArg some (K_r h (F := 1) (cl := 14) (f := 0) (by decide) (by decide))
theorem K_countF {c : CS} {a : AA} {v : CV} {w : Int32} (h : RC c a v) : k_Face_count c 0 w = some (A_cnt a w) := by
  unfold k_Face_count k_Face_count_b0 A_cnt
  by_cases q0 : w = 0
  · rw [if_pos q0, if_pos q0]
    exact congrArg some (congrArg Int32.ofNat (way_len h).1)
  rw [if_neg q0, if_neg q0]
  by_cases q1 : w = 1
  · rw [if_pos q1, if_pos q1]
    exact congrArg some (K_r h (F := 21) (cl := 14) (f := 3) (by decide) (by decide))
  rw [if_neg q1, if_neg q1]
  by_cases q2 : w = 2
  · rw [if_pos q2, if_pos q2]
    exact congrArg some (K_r h (F := 22) (cl := 14) (f := 4) (by decide) (by decide))
  rw [if_neg q2, if_neg q2]
  by_cases q3 : w = 3
  · rw [if_pos q3, if_pos q3]
    exact congrArg some (K_r h (F := 3) (cl := 14) (f := 2) (by decide) (by decide))
  rw [if_neg q3, if_neg q3]
  by_cases q4 : w = 4
  · rw [if_pos q4, if_pos q4]
    exact congrArg some (h.2.2.2.2.2.2.2.2.2.2.2.2.2.2.2.1).1
  rw [if_neg q4, if_neg q4]
  by_cases q5 : w = 5
  · rw [if_pos q5, if_pos q5]
    exact congrArg some (K_r h (F := 141) (cl := 4) (f := 1) (by decide) (by decide))
  rw [if_neg q5, if_neg q5]
  by_cases q6 : w = 6
  · rw [if_pos q6, if_pos q6]
    exact congrArg some (h.2.2.2.2.2.2.2.2.2.2.2.2.2.2.2.2.1).1
  rw [if_neg q6, if_neg q6]
theorem K_tellS {c : CS} {a : AA} {v : CV} {s k : Nat} (h : RC c a v) (hs : s < 7) (hu : aS a 52 s = 1) (h1 : 1 ≤ k) (h2 : k ≤ 20) : k_Server_tell c s (Int32.ofNat k) = some (aTellServer a s (Int32.ofNat k)) := by
  have hm := (h.2.2.2.2.2.2.2.2.2.2.2.1 s hs).2
  have e : aTellServer a s (Int32.ofNat k) = (if Int32.ofNat k = 1 then aS a 73 s else if Int32.ofNat k = 2 then aS a 53 s else if Int32.ofNat k = 3 then aS a 54 s else if Int32.ofNat k = 4 then aS a 74 s
  else if Int32.ofNat k = 5 then aS a 75 s else if Int32.ofNat k = 6 then aS a 76 s else if Int32.ofNat k = 7 then aS a 77 s else if Int32.ofNat k = 8 then aS a 55 s
  else if Int32.ofNat k = 9 then aS a 56 s else if Int32.ofNat k = 10 then aS a 65 s else if Int32.ofNat k = 11 then aS a 79 s else if Int32.ofNat k = 12 then aS a 80 s
  else if Int32.ofNat k = 13 then aS a 71 s else if Int32.ofNat k = 14 then (if aS a 73 s = 3 then aS a 83 s else 0) else if Int32.ofNat k = 15 then Int32.ofNat (aWt a s).length
  else if Int32.ofNat k = 16 then Int32.ofNat (aRq a s).length else if Int32.ofNat k = 17 then Int32.ofNat (aMc a s).1.length else if Int32.ofNat k = 18 then Int32.ofNat (aMc a s).2.length
  else if Int32.ofNat k = 19 then Int32.ofNat (aUnits (aMc a s)) else aS a 67 s) := by
    unfold aTellServer
    rw [if_neg (fun z => by
      have z := congrArg Int32.toInt z
      rw [Int32.toInt_ofNat_of_lt (by omega), i_0] at z
      omega), if_neg (by rw [hu]; decide)]
  rw [e]
  have key : ∀ k, k < 20 → (k = 0 → k_Server_tell c s 1 = some (aS a 73 s)) := fun _ _ _ => congrArg some (K_r h (F := 73) (cl := 13) (f := 12) (by decide) hs)
  match k, h1, h2 with
  | 1, _, _ => exact congrArg some (K_r h (F := 73) (cl := 13) (f := 12) (by decide) hs)
  | 2, _, _ => exact congrArg some (K_r h (F := 53) (cl := 13) (f := 10) (by decide) hs)
  | 3, _, _ => exact congrArg some (K_r h (F := 54) (cl := 13) (f := 11) (by decide) hs)
  | 4, _, _ => exact congrArg some (K_r h (F := 74) (cl := 13) (f := 13) (by decide) hs)
  | 5, _, _ => exact congrArg some (K_r h (F := 75) (cl := 9) (f := 9) (by decide) hs)
  | 6, _, _ => exact congrArg some (K_r h (F := 76) (cl := 9) (f := 10) (by decide) hs)
  | 7, _, _ => exact congrArg some (K_r h (F := 77) (cl := 9) (f := 11) (by decide) hs)
  | 8, _, _ => exact congrArg some (K_r h (F := 55) (cl := 9) (f := 3) (by decide) hs)
  | 9, _, _ => exact congrArg some (K_r h (F := 56) (cl := 9) (f := 6) (by decide) hs)
  | 10, _, _ => exact congrArg some (K_r h (F := 65) (cl := 9) (f := 7) (by decide) hs)
  | 11, _, _ => exact congrArg some (K_r h (F := 79) (cl := 13) (f := 15) (by decide) hs)
  | 12, _, _ => exact congrArg some (K_r h (F := 80) (cl := 7) (f := 10) (by decide) hs)
  | 13, _, _ =>
    show (if xc0 .eq (cI c 13 s 9 0) = true then some 0 else some 1) = some (aS a 71 s)
    rw [K_r h (F := 71) (cl := 13) (f := 9) (by decide) hs]
    rcases (h.2.2.2.2.2.2.2.2.2.2.2.2.2.2.2.2.2.2.2.2.2.2).2.2.2.1 s hs with q | q
    · rw [q, if_pos (by decide)]
    · rw [q, if_neg (by decide)]
  | 14, _, _ =>
    show (if xc2 .ne (cI c 13 s 12 0) 3 = true then some 0 else some (cI c 7 s 9 0)) = some (if aS a 73 s = 3 then aS a 83 s else 0)
    rw [K_r h (F := 73) (cl := 13) (f := 12) (by decide) hs]
    by_cases q : aS a 73 s = 3
    · rw [if_neg (fun z => c2_ne.mp z q), if_pos q]
      exact congrArg some (h.2.2.2.1 s hs q).2.1
    · rw [if_pos (c2_ne.mpr q), if_neg q]
  | 15, _, _ => exact congrArg some (congrArg Int32.ofNat (F2_len ((h.2.2.2.2.2.2.2.2.2.2.2.2.2.2.2.2.2.2.2.1).2.2.1 s hs)))
  | 16, _, _ =>
    obtain ⟨_, _, _, _, _, _, e8⟩ := h.2.2.2.2.1 s hs hu
    exact congrArg some e8
  | 17, _, _ =>
    refine congrArg some (hm.1.trans (congrArg Int32.ofNat ?_))
    exact List.length_mergeSort _
  | 18, _, _ => exact congrArg some hm.2.1
  | 19, _, _ => exact congrArg some hm.2.2.1
  | 20, _, _ =>
    show ((k_Disk_snapshotSize c s).bind fun p => some p) = some (aS a 67 s)
    rw [K_snapSize h hs hu]
    rfl
  | n + 21, _, h2 => exact absurd h2 (by omega)
theorem K_serverF {c : CS} {a : AA} {v : CV} {x w : Int32} (h : RC c a v) (hb : ∀ s, s < 7 → aS a 52 s = 0 ∨ aS a 52 s = 1) : cVal2 a (A_server a x w) (k_Face_server c 0 x w) (k_Face_server_J c 0 x w) (k_Face_host_J c 0 x) := by
  unfold A_server
  by_cases q1 : aInR x 0 6 = true
  · obtain ⟨s, hs, e⟩ := inR_6 q1
    subst e
    by_cases q2 : aInR w 0 20 = true
    · rw [q1, q2, i_cl (by omega)]
      refine ⟨rfl, Or.inl ⟨rfl, ?_⟩⟩
      show k_Face_server c 0 (Int32.ofNat s) w = some (aTellServer a s w)
      obtain ⟨k, ek, hk⟩ := in_nat2 (hi := 20) (by omega) q2
      subst ek
      have ev := Int32.toInt_ofNat_of_lt (n := k) (by omega)
      unfold k_Face_server k_Face_server_b0
      rw [K_host hs]
      show (if _ then _ else _) = _
      rw [if_neg (fun z => by have z := g0_lt.mp z; omega), if_pos (g2_le.mpr (by rw [L_20]; omega)), K_r h (F := 52) (cl := 13) (f := 8) (by decide) hs]
      by_cases q0 : k = 0
      · subst q0
        rw [if_neg (by decide)]
        show _ = some (aS a 52 s)
        rcases hb s hs with q | q
        · rw [q, if_pos (by decide)]
          rfl
        · rw [q, if_neg (by decide)]
          rfl
      · rw [if_pos (c0_ne.mpr (fun z => by have z := congrArg Int32.toInt z; rw [ev, i_0] at z; omega))]
        rcases hb s hs with q | q
        · rw [q, if_pos (by decide)]
          unfold k_Face_server_b57 aTellServer
          rw [if_neg (fun z => by have z := congrArg Int32.toInt z; rw [ev, i_0] at z; omega), if_pos q]
        · rw [q, if_neg (by decide), K_tellS h hs q (by omega) hk]
          rfl
    · have q2 := b_false q2
      rw [q1, q2]
      refine ⟨rfl, Or.inr ⟨rfl, Or.inl ?_⟩⟩
      have n2 := inR_n.mp q2
      rw [i_0, L_20] at n2
      unfold k_Face_server_J k_Face_server_J_b0 k_Face_server_J_b16
      rw [K_host hs]
      show (if _ then _ else _) = _
      by_cases q : w.toInt < 0
      · rw [if_pos (g0_lt.mpr q)]
      · rw [if_neg (fun z => q (g0_lt.mp z)), if_neg (fun z => by have z := g2_le.mp z; rw [L_20] at z; omega)]
  · have q1 := b_false q1
    rw [q1]
    exact ⟨rfl, Or.inr ⟨rfl, Or.inr (K_hostJ q1)⟩⟩
theorem K_clientF {c : CS} {a : AA} {v : CV} {x w : Int32} (h : RC c a v) (hb : ∀ k, k < 8 → aS a 124 k = 0 ∨ aS a 124 k = 1) : cVal2 a (A_client a x w) (k_Face_client c 0 x w) (k_Face_client_J c 0 x w) (k_Face_asker_J c 0 x) := by
  unfold A_client
  by_cases q1 : aInR x 0 7 = true
  · obtain ⟨s, hs, e⟩ := inR_7 q1
    subst e
    by_cases q2 : aInR w 0 5 = true
    · rw [q1, q2, i_cl (by omega)]
      refine ⟨rfl, Or.inl ⟨rfl, ?_⟩⟩
      obtain ⟨k, ek, hk⟩ := in_nat2 (hi := 5) (by omega) q2
      subst ek
      unfold k_Face_client k_Face_client_b0
      rw [K_asker hs]
      match k, hk with
      | 0, _ =>
        show (if xc0 .eq (cI c 5 s 3 0) = true then some 0 else some 1) = some (aS a 124 s)
        rw [K_r h (F := 124) (cl := 5) (f := 3) (by decide) hs]
        rcases hb s hs with q | q
        · rw [q, if_pos (by decide)]
        · rw [q, if_neg (by decide)]
      | 1, _ => exact congrArg some (K_r h (F := 125) (cl := 5) (f := 4) (by decide) hs)
      | 2, _ => exact congrArg some (K_r h (F := 126) (cl := 5) (f := 5) (by decide) hs)
      | 3, _ => exact congrArg some (K_r h (F := 127) (cl := 5) (f := 6) (by decide) hs)
      | 4, _ => exact congrArg some (K_r h (F := 128) (cl := 5) (f := 7) (by decide) hs)
      | 5, _ => exact congrArg some (K_r h (F := 129) (cl := 5) (f := 8) (by decide) hs)
    · have q2 := b_false q2
      rw [q1, q2]
      refine ⟨rfl, Or.inr ⟨rfl, Or.inl ?_⟩⟩
      have n2 := inR_n.mp q2
      rw [i_0, L_5] at n2
      have no : ∀ k : Nat, k ≤ 5 → ¬ w = Int32.ofNat k := fun k hk z => by
        have z := congrArg Int32.toInt z
        rw [Int32.toInt_ofNat_of_lt (by omega)] at z
        omega
      unfold k_Face_client_J k_Face_client_J_b0
      rw [K_asker hs]
      show (if w = 0 then _ else _) = _
      rw [if_neg (show ¬ w = 0 from no 0 (by omega)), if_neg (show ¬ w = 1 from no 1 (by omega)), if_neg (show ¬ w = 2 from no 2 (by omega)), if_neg (show ¬ w = 3 from no 3 (by omega)), if_neg (show ¬ w = 4 from no 4 (by omega)), if_neg (show ¬ w = 5 from no 5 (by omega))]
  · have q1 := b_false q1
    rw [q1]
    exact ⟨rfl, Or.inr ⟨rfl, Or.inr (K_askerJ q1)⟩⟩
theorem K_historyF {c : CS} {a : AA} {v : CV} {x w : Int32} (h : RC c a v) : cVal a (A_history a x w) (k_Face_history c 0 x w) (k_Face_history_J c 0 x w) := by
  have e0 : cI c 4 0 0 0 = Int32.ofNat (aAk a).length := (h.2.2.2.2.2.2.2.2.2.2.2.2.2.2.2.1).1
  have hl : (aAk a).length ≤ 1024 := (h.2.2.2.2.2.2.2.2.2.2.2.2.2.2.2.1).2.1
  have el := Int32.toInt_ofNat_of_lt (n := (aAk a).length) (by omega)
  unfold A_history
  by_cases q1 : x < 0 ∨ aInR w 0 5 = false
  · rw [if_pos q1]
    refine ⟨rfl, Or.inr ⟨rfl, ?_⟩⟩
    unfold k_Face_history_J k_Face_history_J_b0 k_Face_history_J_b24
    by_cases q : x < 0
    · rw [if_pos (c0_lt.mpr q)]
    · rw [if_neg (fun z => q (c0_lt.mp z))]
      have n2 := inR_n.mp (q1.resolve_left q)
      rw [i_0, L_5] at n2
      by_cases q3 : xc2 .ge x (cI c 4 0 0 0) = true
      · rw [if_pos q3]
      · rw [if_neg q3]
        by_cases q4 : w.toInt < 0
        · rw [if_pos (g0_lt.mpr q4)]
        · rw [if_neg (fun z => q4 (g0_lt.mp z)), if_neg (fun z => by have z := g2_le.mp z; rw [L_5] at z; omega)]
  · rw [if_neg q1]
    have qx : ¬ x < 0 := fun z => q1 (Or.inl z)
    have qw : aInR w 0 5 = true := by
      cases z : aInR w 0 5 with
      | true => rfl
      | false => exact absurd (Or.inr z) q1
    obtain ⟨k, ek, hk⟩ := in_nat2 (hi := 5) (by omega) qw
    have ev := Int32.toInt_ofNat_of_lt (n := k) (by omega)
    have hx0 : 0 ≤ x.toInt := by
      rw [Int32.lt_iff_toInt_lt, i_0] at qx
      omega
    have ex : x = Int32.ofNat x.toNatClampNeg := by
      apply Int32.toInt_inj.mp
      rw [Int32.toInt_ofNat_of_lt (by have := Int32.toInt_lt x; show x.toInt.toNat < _; omega)]
      show x.toInt = (x.toInt.toNat : Int)
      omega
    have ex2 : (x.toNatClampNeg : Int) = x.toInt := by
      show (x.toInt.toNat : Int) = x.toInt
      omega
    cases hg : (aAk a)[x.toNatClampNeg]? with
    | none =>
      refine ⟨rfl, Or.inr ⟨rfl, ?_⟩⟩
      have hl2 := List.getElem?_eq_none_iff.mp hg
      unfold k_Face_history_J k_Face_history_J_b0 k_Face_history_J_b24
      rw [if_neg (fun z => qx (c0_lt.mp z)), if_pos (g2_ge.mpr (by rw [e0, el]; omega))]
    | some K =>
      refine ⟨rfl, Or.inl ⟨rfl, ?_⟩⟩
      obtain ⟨hl2, hK⟩ := List.getElem?_eq_some_iff.mp hg
      show k_Face_history c 0 x w = some (K.1 w.toNatClampNeg)
      have eK : (aAk a).getD x.toNatClampNeg (fun _ => 0, []) = K := by
        rw [List.getD_eq_getElem?_getD, hg]
        rfl
      have et := K_tellA (f := k) h hl2 (by omega)
      unfold k_Face_history k_Face_history_b0
      rw [if_neg (fun z => qx (c0_lt.mp z)), if_neg (fun z => by have z := g2_ge.mp z; rw [e0, el] at z; omega), ek, if_neg (fun z => by have z := g0_lt.mp z; omega), if_pos (g2_le.mpr (by rw [L_5]; omega)), ex, et, i_cl (by omega)]
      show some (kFld (aAk a) x.toNatClampNeg k) = some (K.1 k)
      congr 1
      rw [← eK]
      unfold kFld
      match k, hk with
      | 0, _ => rfl
      | 1, _ => rfl
      | 2, _ => rfl
      | 3, _ => rfl
      | 4, _ => rfl
      | 5, _ => rfl
theorem K_byteAtF {c : CS} {a : AA} {v : CV} {x : Int32} (h : RC c a v) : cVal a (A_byteAt a x) (k_Face_byteAt c 0 x) (k_Face_byteAt_J c 0 x) := by
  obtain ⟨_, _, _, f4, f5, f6⟩ := h.2.2.2.2.2.2.2.2.2.2.2.2.2.2.2.2.1
  have el := Int32.toInt_ofNat_of_lt (n := (aRe a).length) (by omega)
  unfold A_byteAt
  by_cases q : x < 0
  · rw [if_pos q]
    refine ⟨rfl, Or.inr ⟨rfl, ?_⟩⟩
    unfold k_Face_byteAt_J k_Face_byteAt_J_b0 k_Face_byteAt_J_b12
    rw [if_pos (c0_lt.mpr q)]
  · rw [if_neg q]
    have hx0 : 0 ≤ x.toInt := by
      rw [Int32.lt_iff_toInt_lt, i_0] at q
      omega
    have ex2 : (x.toNatClampNeg : Int) = x.toInt := by
      show (x.toInt.toNat : Int) = x.toInt
      omega
    have ex : x = Int32.ofNat x.toNatClampNeg := by
      apply Int32.toInt_inj.mp
      rw [Int32.toInt_ofNat_of_lt (by have := Int32.toInt_lt x; omega)]
      omega
    cases hg : (aRe a)[x.toNatClampNeg]? with
    | none =>
      refine ⟨rfl, Or.inr ⟨rfl, ?_⟩⟩
      have hl2 := List.getElem?_eq_none_iff.mp hg
      unfold k_Face_byteAt_J k_Face_byteAt_J_b0 k_Face_byteAt_J_b12
      rw [if_neg (fun z => q (c0_lt.mp z)), if_neg (fun z => by have z := g2_lt.mp z; rw [f4, el] at z; omega)]
    | some b =>
      refine ⟨rfl, Or.inl ⟨rfl, ?_⟩⟩
      obtain ⟨hl2, hK⟩ := List.getElem?_eq_some_iff.mp hg
      unfold k_Face_byteAt k_Face_byteAt_b0
      rw [if_neg (fun z => q (c0_lt.mp z)), if_pos (g2_lt.mpr (by rw [f4, el]; omega)), crd_n (c := c) (cl := 15) (i := 0) (f := 6) ex (show x.toNatClampNeg < 134 by omega) (by omega)]
      show some (cI c 15 0 6 x.toNatClampNeg &&& 255) = some (b &&& 255)
      rw [f6 _ hl2, List.getD_eq_getElem?_getD, hg]
      rfl
/-! the face: an entry, a file, a message, a key, a value -/
theorem i_ofx {x : Int32} (h : ¬ x < 0) : x = Int32.ofNat x.toNatClampNeg ∧ (x.toNatClampNeg : Int) = x.toInt := by
  rw [Int32.lt_iff_toInt_lt, i_0] at h
  have e : (x.toNatClampNeg : Int) = x.toInt := by
    show (x.toInt.toNat : Int) = x.toInt
    omega
  refine ⟨?_, e⟩
  apply Int32.toInt_inj.mp
  rw [Int32.toInt_ofNat_of_lt (by have := Int32.toInt_lt x; omega)]
  omega
theorem K_entryF {c : CS} {a : AA} {v : CV} {x i w : Int32} (h : RC c a v) (wl : ∀ s, s < 7 → WLg a s) (hb : ∀ s, s < 7 → aS a 52 s = 0 ∨ aS a 52 s = 1) : cVal2 a (A_entry a x i w) (k_Face_entry c 0 x i w) (k_Face_entry_J c 0 x i w) (k_Face_host_J c 0 x) := by
  unfold A_entry
  by_cases q1 : aInR x 0 6 = true
  · obtain ⟨s, hs, e⟩ := inR_6 q1
    subst e
    have w1 := wl s hs
    rw [q1, i_cl (by omega)]
    show cVal2 a (if aS a 52 s = 0 ∨ aInR w 0 2 = false then (a, 1, 0) else if i = aBase a s ∧ w = 0 then (a, 0, aS a 57 s) else if aHas a s i = true then (a, 0, if w = 0 then (aEnt a s i).1 else if w = 1 then (aEnt a s i).2.1 else (aEnt a s i).2.2.1) else (a, 1, 0)) _ _ _
    by_cases q2 : aS a 52 s = 0 ∨ aInR w 0 2 = false
    · rw [if_pos q2]
      refine ⟨rfl, Or.inr ⟨rfl, Or.inl ?_⟩⟩
      unfold k_Face_entry_J k_Face_entry_J_b0 k_Face_entry_J_b24
      rw [K_host hs]
      show (if _ then _ else _) = _
      rw [K_r h (F := 52) (cl := 13) (f := 8) (by decide) hs]
      by_cases q : aS a 52 s = 0
      · rw [if_pos (c0_eq.mpr q)]
      · rw [if_neg (fun z => q (c0_eq.mp z))]
        have n2 := inR_n.mp (q2.resolve_left q)
        rw [i_0, L_2] at n2
        by_cases q4 : w.toInt < 0
        · rw [if_pos (g0_lt.mpr q4)]
        · rw [if_neg (fun z => q4 (g0_lt.mp z)), if_neg (fun z => by have z := g2_le.mp z; rw [L_2] at z; omega)]
    · rw [if_neg q2]
      have qu : ¬ aS a 52 s = 0 := fun z => q2 (Or.inl z)
      have qw : aInR w 0 2 = true := by
        cases z : aInR w 0 2 with
        | true => rfl
        | false => exact absurd (Or.inr z) q2
      obtain ⟨k, ek, hk⟩ := in_nat2 (hi := 2) (by omega) qw
      subst ek
      have ev := Int32.toInt_ofNat_of_lt (n := k) (by omega)
      have z0 : Int32.ofNat k = 0 ↔ k = 0 := ⟨fun z => by have z := congrArg Int32.toInt z; rw [ev, i_0] at z; omega, fun z => by rw [z]; rfl⟩
      have go : ∀ {α : Type} {A B C : Option α}, (if xc0 .eq (aS a 52 s) = true then A else if xc0 .lt (Int32.ofNat k) = true then B else if xc2 .le (Int32.ofNat k) 2 = true then C else A) = C := by
        intro α A B C
        rw [if_neg (fun z => qu (c0_eq.mp z)), if_neg (fun z => by have z := g0_lt.mp z; omega), if_pos (g2_le.mpr (by rw [L_2]; omega))]
      by_cases q3 : i = aBase a s ∧ Int32.ofNat k = 0
      · rw [if_pos q3]
        refine ⟨rfl, Or.inl ⟨rfl, ?_⟩⟩
        unfold k_Face_entry k_Face_entry_b0
        rw [K_host hs]
        show (if _ then _ else _) = _
        rw [K_r h (F := 52) (cl := 13) (f := 8) (by decide) hs, if_neg (fun z => qu (c0_eq.mp z)), if_neg (fun z => by have z := g0_lt.mp z; omega), if_pos (g2_le.mpr (by rw [L_2]; omega)), K_r h (F := 55) (cl := 9) (f := 3) (by decide) hs, if_neg (fun z => c2_ne.mp z (show i = aS a 55 s from q3.1)), if_neg (fun z => c0_ne.mp z q3.2)]
        exact congrArg some (K_r h (F := 57) (cl := 9) (f := 4) (by decide) hs)
      · rw [if_neg q3]
        have hh := K_logHas (n := i) h hs
        by_cases q4 : aHas a s i = true
        · rw [if_pos q4]
          refine ⟨rfl, Or.inl ⟨rfl, ?_⟩⟩
          have key : k_Face_entry_b58 c i (Int32.ofNat k) s = some (if Int32.ofNat k = 0 then (aEnt a s i).1 else if Int32.ofNat k = 1 then (aEnt a s i).2.1 else (aEnt a s i).2.2.1) := by
            obtain ⟨j, j1, j2, j3, _⟩ := aHas_i w1 q4
            unfold k_Face_entry_b58 k_Log_at k_Log_at_b0
            rw [hh, q4, Option.bind_some, if_pos (show xc0 .ne (aB true) = true by decide), Option.bind_some]
            rw [K_r h (F := 55) (cl := 9) (f := 3) (by decide) hs, show aS a 55 s = aBase a s from rfl, K_row h hs j1 w1.2.2.1 (show k < 6 by omega) (at_i j2 k)]
            have ee : aEnt a s i = (aLg a s).getD j aE0 := by
              unfold aEnt
              rw [j3]
              rfl
            rw [ee]
            match k, hk with
            | 0, _ => rfl
            | 1, _ => rfl
            | 2, _ => rfl
          unfold k_Face_entry k_Face_entry_b0
          rw [K_host hs]
          show (if _ then _ else _) = _
          rw [K_r h (F := 52) (cl := 13) (f := 8) (by decide) hs, if_neg (fun z => qu (c0_eq.mp z)), if_neg (fun z => by have z := g0_lt.mp z; omega), if_pos (g2_le.mpr (by rw [L_2]; omega)), K_r h (F := 55) (cl := 9) (f := 3) (by decide) hs, key]
          by_cases q5 : i = aBase a s
          · rw [if_neg (fun z => c2_ne.mp z (show i = aS a 55 s from q5)), if_pos (c0_ne.mpr (fun z => q3 ⟨q5, z⟩))]
          · rw [if_pos (c2_ne.mpr (show ¬ i = aS a 55 s from q5))]
        · rw [if_neg q4]
          refine ⟨rfl, Or.inr ⟨rfl, Or.inl ?_⟩⟩
          have q4 := b_false q4
          have key : k_Face_entry_J_b58 c i (Int32.ofNat k) s = some () := by
            unfold k_Face_entry_J_b58
            rw [hh, q4]
            rfl
          unfold k_Face_entry_J k_Face_entry_J_b0
          rw [K_host hs]
          show (if _ then _ else _) = _
          rw [K_r h (F := 52) (cl := 13) (f := 8) (by decide) hs, if_neg (fun z => qu (c0_eq.mp z)), if_neg (fun z => by have z := g0_lt.mp z; omega), if_pos (g2_le.mpr (by rw [L_2]; omega)), K_r h (F := 55) (cl := 9) (f := 3) (by decide) hs, key]
          by_cases q5 : i = aBase a s
          · rw [if_neg (fun z => c2_ne.mp z (show i = aS a 55 s from q5)), if_pos (c0_ne.mpr (fun z => q3 ⟨q5, z⟩))]
          · rw [if_pos (c2_ne.mpr (show ¬ i = aS a 55 s from q5))]
  · have q1 := b_false q1
    rw [q1]
    exact ⟨rfl, Or.inr ⟨rfl, Or.inr (K_hostJ q1)⟩⟩
theorem K_diskTell {c : CS} {a : AA} {v : CV} {s f k : Nat} (h : RC c a v) (hs : s < 7) (hf : f < 16) (hk : k ≤ 4) : k_Disk_tell c s (Int32.ofNat f) (Int32.ofNat k) = some (if Int32.ofNat k = 0 then (aFc a s f).1 1 else if Int32.ofNat k = 1 then (aFk a s f).1 1 else if Int32.ofNat k = 2 then aS a 43 (16 * s + f) else if Int32.ofNat k = 3 then (aFc a s f).1 0 else (aFk a s f).1 0) := by
  obtain ⟨p1, p2, _⟩ := h.2.2.2.2.2.2.2.2.2.1 s hs f hf
  obtain ⟨a0, a1, _, _, _, _, _, _, _, a9, _⟩ := p1
  obtain ⟨b0, b1, _, _, _, _, _, _, _, b9, _⟩ := p2
  match k, hk with
  | 0, _ =>
    show ((cix 6 0 (Int32.ofNat f)).bind fun n2 => some (cI c 11 (30 * s + cpg n2) 1 0)) = some ((aFc a s f).1 1)
    rw [cix0 hf]
    exact congrArg some a1
  | 1, _ =>
    show ((cix 6 1 (Int32.ofNat f)).bind fun n2 => some (cI c 11 (30 * s + ckp n2) 1 0)) = some ((aFk a s f).1 1)
    rw [cix1 hf]
    exact congrArg some b1
  | 2, _ =>
    show ((crd c 6 s 2 (Int32.ofNat f)).bind fun x => some x) = some (aS a 43 (16 * s + f))
    rw [crd_n rfl (show f < 16 from hf) (by omega)]
    exact congrArg some (h.2.2.2.2.2.2.2.1 s hs f hf)
  | 3, _ =>
    show ((cix 6 0 (Int32.ofNat f)).bind fun n2 => if xc0 .eq (cI c 11 (30 * s + cpg n2) 0 0) = true then some 0 else some 1) = some ((aFc a s f).1 0)
    rw [cix0 hf]
    show (if xc0 .eq (cI c 11 (30 * s + cpg f) 0 0) = true then some 0 else some 1) = _
    rw [a0]
    rcases a9 with q | q
    · rw [q, if_pos (by decide)]
    · rw [q, if_neg (by decide)]
  | 4, _ =>
    show ((cix 6 1 (Int32.ofNat f)).bind fun n2 => if xc0 .eq (cI c 11 (30 * s + ckp n2) 0 0) = true then some 0 else some 1) = some ((aFk a s f).1 0)
    rw [cix1 hf]
    show (if xc0 .eq (cI c 11 (30 * s + ckp f) 0 0) = true then some 0 else some 1) = _
    rw [b0]
    rcases b9 with q | q
    · rw [q, if_pos (by decide)]
    · rw [q, if_neg (by decide)]
theorem K_fileF {c : CS} {a : AA} {v : CV} {x f w : Int32} (h : RC c a v) : cVal2 a (A_file a x f w) (k_Face_file c 0 x f w) (k_Face_file_J c 0 x f w) (k_Face_host_J c 0 x) := by
  unfold A_file
  by_cases q1 : aInR x 0 6 = true
  · obtain ⟨s, hs, e⟩ := inR_6 q1
    subst e
    by_cases q2 : aInR f 0 15 = true ∧ aInR w 0 4 = true
    · obtain ⟨q2, q3⟩ := q2
      rw [q1, q2, q3, i_cl (by omega)]
      refine ⟨rfl, Or.inl ⟨rfl, ?_⟩⟩
      obtain ⟨k, ek, hk⟩ := in_nat2 (hi := 4) (by omega) q3
      obtain ⟨g, eg, hg⟩ := in_nat2 (hi := 15) (by omega) q2
      subst ek
      subst eg
      have ev := Int32.toInt_ofNat_of_lt (n := k) (by omega)
      have ev2 := Int32.toInt_ofNat_of_lt (n := g) (by omega)
      unfold k_Face_file k_Face_file_b0
      rw [K_host hs]
      show (if _ then _ else _) = _
      rw [if_neg (fun z => by have z := g0_lt.mp z; omega), if_neg (fun z => by have z := g2_ge.mp z; rw [L_16] at z; omega), if_neg (fun z => by have z := g0_lt.mp z; omega), if_pos (g2_le.mpr (by rw [L_4]; omega)), K_diskTell h hs (by omega) hk, i_cl (by omega)]
      rfl
    · have e0 : (!aInR (Int32.ofNat s) 0 6 || !aInR f 0 15 || !aInR w 0 4) = true := by
        cases z1 : aInR f 0 15 with
        | false => cases aInR (Int32.ofNat s) 0 6 <;> rfl
        | true => cases z2 : aInR w 0 4 with
          | false => cases aInR (Int32.ofNat s) 0 6 <;> rfl
          | true => exact absurd ⟨z1, z2⟩ q2
      rw [e0]
      refine ⟨rfl, Or.inr ⟨rfl, Or.inl ?_⟩⟩
      rw [inR_t, inR_t, i_0, L_15, L_4] at q2
      unfold k_Face_file_J k_Face_file_J_b0 k_Face_file_J_b26
      rw [K_host hs]
      show (if _ then _ else _) = _
      by_cases q : f.toInt < 0
      · rw [if_pos (g0_lt.mpr q)]
      · rw [if_neg (fun z => q (g0_lt.mp z))]
        by_cases q3 : 16 ≤ f.toInt
        · rw [if_pos (g2_ge.mpr (by rw [L_16]; exact q3))]
        · rw [if_neg (fun z => q3 (by have z := g2_ge.mp z; rw [L_16] at z; exact z))]
          by_cases q4 : w.toInt < 0
          · rw [if_pos (g0_lt.mpr q4)]
          · rw [if_neg (fun z => q4 (g0_lt.mp z)), if_neg (fun z => by have z := g2_le.mp z; rw [L_4] at z; omega)]
  · have q1 := b_false q1
    rw [q1]
    exact ⟨rfl, Or.inr ⟨rfl, Or.inr (K_hostJ q1)⟩⟩
theorem K_messageF {c : CS} {a : AA} {v : CV} {k w : Int32} (h : RC c a v) : cVal a (A_message a k w) (k_Face_message c 0 k w) (k_Face_message_J c 0 k w) := by
  have hh := K_has (k := k) h
  unfold A_message
  have thr : (¬ (0 ≤ k ∧ k.toNatClampNeg < (aWay a).length) ∨ aInR w 0 4 = false) → k_Face_message_J c 0 k w = some () := by
    intro q
    unfold k_Face_message_J k_Face_message_J_b0 k_Face_message_J_b20
    rw [hh]
    show (if _ then _ else _) = _
    by_cases q1 : 0 ≤ k ∧ k.toNatClampNeg < (aWay a).length
    · rw [decide_eq_true q1, if_neg (by decide)]
      have n2 := inR_n.mp (q.resolve_left (fun z => z q1))
      rw [i_0, L_4] at n2
      by_cases q4 : w.toInt < 0
      · rw [if_pos (g0_lt.mpr q4)]
      · rw [if_neg (fun z => q4 (g0_lt.mp z)), if_neg (fun z => by have z := g2_le.mp z; rw [L_4] at z; omega)]
    · rw [decide_eq_false q1, if_pos (by decide)]
  by_cases q1 : k < 0 ∨ aInR w 0 4 = false
  · rw [if_pos q1]
    exact ⟨rfl, Or.inr ⟨rfl, thr (q1.imp (fun z y => absurd z (Int32.not_lt.mpr y.1)) id)⟩⟩
  · rw [if_neg q1]
    have qx : ¬ k < 0 := fun z => q1 (Or.inl z)
    have qw : aInR w 0 4 = true := by
      cases z : aInR w 0 4 with
      | true => rfl
      | false => exact absurd (Or.inr z) q1
    obtain ⟨ex, ex2⟩ := i_ofx qx
    cases hg : (aWay a)[k.toNatClampNeg]? with
    | none =>
      have hl2 := List.getElem?_eq_none_iff.mp hg
      exact ⟨rfl, Or.inr ⟨rfl, thr (Or.inl (fun z => by have := z.2; omega))⟩⟩
    | some p =>
      refine ⟨rfl, Or.inl ⟨rfl, ?_⟩⟩
      obtain ⟨hl2, hK⟩ := List.getElem?_eq_some_iff.mp hg
      have hlen := (way_len h).1
      have had : (cS c 14 0 15)[k.toNatClampNeg]? = some ((cS c 14 0 15)[k.toNatClampNeg]'(by omega)) := List.getElem?_eq_getElem (by omega)
      generalize (cS c 14 0 15)[k.toNatClampNeg]'(by omega) = ad at had
      obtain ⟨p', hp', R⟩ := F2_get (h.2.2.2.2.2.2.2.2.2.2.2.2.2.2.2.2.2.2.2.1).2.1 had
      rw [hg] at hp'
      cases hp'
      obtain ⟨r0, _, r2, _⟩ := R
      obtain ⟨j, ej, hj⟩ := in_nat2 (hi := 4) (by omega) qw
      subst ej
      have ev := Int32.toInt_ofNat_of_lt (n := j) (by omega)
      have hb : k.toNatClampNeg < 2147483648 := by
        have := Int32.toInt_lt k
        omega
      show k_Face_message c 0 k (Int32.ofNat j) = some (if Int32.ofNat j = 0 then p.2.2.1 2 else if Int32.ofNat j = 1 then p.2.2.1 3 else if Int32.ofNat j = 2 then p.2.2.1 4 else if Int32.ofNat j = 3 then p.2.2.1 5 else p.1)
      unfold k_Face_message k_Face_message_b0
      rw [hh]
      show (if _ then _ else _) = _
      rw [decide_eq_true ⟨Int32.not_lt.mp qx, hl2⟩, if_neg (by decide), if_neg (fun z => by have z := g0_lt.mp z; omega), if_pos (g2_le.mpr (by rw [L_4]; omega)), clget_n ex hb had]
      match j, hj with
      | 0, _ => exact congrArg some (r2 2 (by decide))
      | 1, _ => exact congrArg some (r2 3 (by decide))
      | 2, _ => exact congrArg some (r2 4 (by decide))
      | 3, _ => exact congrArg some (r2 5 (by decide))
      | 4, _ => exact congrArg some r0
/-- a call that changes something: what comes of it, or a throw that changes nothing -/
def cUpd (a : AA) (v : CV) (r : AR) (k : Option (Int32 × CS)) (j j2 : Option Unit) : Prop := (r.2.1 = 0 ∧ WP k (fun p => RC p.2 r.1 v ∧ p.1 = r.2.2)) ∨ (r.1 = a ∧ r.2.1 = 1 ∧ (j = some () ∨ j2 = some ()))
theorem K_with {c : CS} {a : AA} {v : CV} {s : Nat} {k : Int32} {e : List Int32 × List Int32} (h : RC c a v) (hs : s < 7) (hu : ¬ aS a 52 s = 0) (hk : ¬ k < 0) (hg : (aMc a s).2[k.toNatClampNeg]? = some e) : k_Face_machineWith c 0 (Int32.ofNat s) k = some s := by
  obtain ⟨hw, hm⟩ := h.2.2.2.2.2.2.2.2.2.2.2.1 s hs
  obtain ⟨hl2, hK⟩ := List.getElem?_eq_some_iff.mp hg
  obtain ⟨ex, ex2⟩ := i_ofx hk
  have hb : (aMc a s).2.length ≤ 128 := hw.1.2.1
  unfold k_Face_machineWith k_Face_machineWith_b0
  rw [K_host hs]
  show (if _ then _ else _) = _
  rw [K_r h (F := 52) (cl := 13) (f := 8) (by decide) hs, if_neg (fun z => hu (c0_eq.mp z)), if_neg (fun z => hk (c0_lt.mp z)), if_pos (g2_lt.mpr (by
    rw [show cI c 10 s 4 0 = Int32.ofNat (aMc a s).2.length from hm.2.1, Int32.toInt_ofNat_of_lt (by omega)]
    omega))]
theorem K_withJ {c : CS} {a : AA} {v : CV} {s : Nat} {k : Int32} (h : RC c a v) (hs : s < 7) (hn : (aS a 52 s = 0 ∨ k < 0) ∨ (aMc a s).2[k.toNatClampNeg]? = none) : k_Face_machineWith_J c 0 (Int32.ofNat s) k = some () := by
  obtain ⟨hw, hm⟩ := h.2.2.2.2.2.2.2.2.2.2.2.1 s hs
  have hb : (aMc a s).2.length ≤ 128 := hw.1.2.1
  unfold k_Face_machineWith_J k_Face_machineWith_J_b0 k_Face_machineWith_J_b28
  rw [K_host hs]
  show (if _ then _ else _) = _
  rw [K_r h (F := 52) (cl := 13) (f := 8) (by decide) hs]
  by_cases q : aS a 52 s = 0
  · rw [if_pos (c0_eq.mpr q)]
  rw [if_neg (fun z => q (c0_eq.mp z))]
  by_cases q2 : k < 0
  · rw [if_pos (c0_lt.mpr q2)]
  rw [if_neg (fun z => q2 (c0_lt.mp z))]
  obtain ⟨ex, ex2⟩ := i_ofx q2
  have hl2 := List.getElem?_eq_none_iff.mp (hn.resolve_left (fun z => z.elim q q2))
  rw [if_neg (fun z => by
    have z := g2_lt.mp z
    rw [show cI c 10 s 4 0 = Int32.ofNat (aMc a s).2.length from hm.2.1, Int32.toInt_ofNat_of_lt (by omega)] at z
    omega)]
theorem aKey_e {a : AA} {s : Nat} {k : Int32} (hs : s < 7) : aKey a (Int32.ofNat s) k = if aS a 52 s = 0 ∨ k < 0 then none else (aMc a s).2[k.toNatClampNeg]? := by
  unfold aKey
  rw [end_s hs, i_cl (by omega)]
  rfl
theorem K_keyF {c : CS} {a : AA} {v : CV} {x k : Int32} (h : RC c a v) : cUpd a v (A_key a x k) (k_Face_key c 0 x k) (k_Face_machineWith_J c 0 x k) (k_Face_host_J c 0 x) := by
  unfold A_key
  by_cases q1 : aInR x 0 6 = true
  · obtain ⟨s, hs, e⟩ := inR_6 q1
    subst e
    rw [aKey_e hs]
    by_cases q2 : aS a 52 s = 0 ∨ k < 0
    · rw [if_pos q2]
      exact Or.inr ⟨rfl, rfl, Or.inl (K_withJ h hs (Or.inl q2))⟩
    · rw [if_neg q2]
      have qu : ¬ aS a 52 s = 0 := fun z => q2 (Or.inl z)
      have qx : ¬ k < 0 := fun z => q2 (Or.inr z)
      cases hg : (aMc a s).2[k.toNatClampNeg]? with
      | none => exact Or.inr ⟨rfl, rfl, Or.inl (K_withJ h hs (Or.inr hg))⟩
      | some E =>
        refine Or.inl ⟨rfl, ?_⟩
        obtain ⟨hw, hm⟩ := h.2.2.2.2.2.2.2.2.2.2.2.1 s hs
        obtain ⟨_, _, _, _, f, f1, f2, f3⟩ := KM0_f hm
        have f3 : ∀ i, i < (aMc a s).2.length → KMe c s (f i) ((aMc a s).2.getD i ([], [])) := f3
        obtain ⟨sl1, sl2⟩ := shL_wf hw.1
        obtain ⟨hl2, hK⟩ := List.getElem?_eq_some_iff.mp hg
        have eE : (aMc a s).2.getD k.toNatClampNeg ([], []) = E := by
          rw [List.getD_eq_getElem?_getD, hg]
          rfl
        obtain ⟨m7, m8, m9, _⟩ := f3 _ hl2
        have hb := sl2 _ hl2
        rw [eE] at m7 m9 hb
        have hq := f1.1 k.toNatClampNeg (by omega)
        have e6 := f2 k.toNatClampNeg (by omega)
        obtain ⟨ex, ex2⟩ := i_ofx qx
        generalize f k.toNatClampNeg = q at m7 m9 hq e6
        unfold k_Face_key k_Face_key_b0 k_Machine_copyKey_15_6 k_Machine_copyKey_15_6_b0
        rw [K_with h hs qu qx hg]
        refine WP_b ?_
        rw [crd_n (c := c) (cl := 10) (i := s) (f := 6) ex (show k.toNatClampNeg < 128 by omega) (by omega), e6]
        have r7 : crd c 10 s 7 (Int32.ofNat q) = some (Int32.ofNat E.1.length) := by
          rw [crd_n (c := c) (cl := 10) (i := s) (f := 7) rfl (show q < 128 from hq) (by omega), m7]
        have P0 : PX 15 0 [6, 7] c (csA c 15 0 6 (fun w => if 0 ≤ w ∧ w < 0 + E.1.length then cI c 10 s 9 (132 * q + (w - 0)) else cI c 15 0 6 w)) := PX_A (by decide)
        have r7' : crd (csA c 15 0 6 (fun w => if 0 ≤ w ∧ w < 0 + E.1.length then cI c 10 s 9 (132 * q + (w - 0)) else cI c 15 0 6 w)) 10 s 7 (Int32.ofNat q) = some (Int32.ofNat E.1.length) := by
          rw [crd_n (cl := 10) (i := s) (f := 7) rfl (show q < 128 from hq) (by omega), PX_c P0 (by decide), m7]
        have g6 : ∀ i, i < E.1.length → cI (csA c 15 0 6 (fun w => if 0 ≤ w ∧ w < 0 + E.1.length then cI c 10 s 9 (132 * q + (w - 0)) else cI c 15 0 6 w)) 15 0 6 i = E.1.getD i 0 := by
          intro i hi
          rw [cI_A, if_pos ⟨Nat.zero_le _, by omega⟩, show 132 * q + (i - 0) = 132 * q + i by omega]
          exact m9 i hi
        have cp := ccpy_n (c := c) (a := 10) (i := s) (f := 9) (s := 132 * q) (a' := 15) (i' := 0) (f' := 6) (t := 0) (n := E.1.length) (x := Int32.ofNat q * 132) (y := 0) i_132 rfl rfl (show 132 * q + E.1.length ≤ 16896 by omega) (show 0 + E.1.length ≤ 134 by omega) (by omega) (by omega)
        generalize csA c 15 0 6 (fun w => if 0 ≤ w ∧ w < 0 + E.1.length then cI c 10 s 9 (132 * q + (w - 0)) else cI c 15 0 6 w) = c1 at P0 g6 cp r7'
        refine WP_call (Q1 := fun p => p.1 = Int32.ofNat E.1.length ∧ p.2 = c1) ?_ (fun p hp => ?_)
        · refine WP_b (WP_eq r7 (WP_eq cp (WP_eq r7' (WP_some ⟨rfl, rfl⟩))))
        · obtain ⟨e1, e2⟩ := hp
          rw [e1, e2]
          refine WP_b (WP_some ⟨RC_re h (PX_t P0 (PX_I (by decide))) csI_e (by omega) (fun i hi => (csI_f (by decide)).trans (g6 i hi)), ?_⟩)
          show cI (csI c1 15 0 7 0 (Int32.ofNat E.1.length)) 15 0 7 0 = Int32.ofNat E.1.length
          exact csI_e
  · have q1 := b_false q1
    have e0 : aKey a x k = none := by
      unfold aKey
      rw [q1]
      rfl
    rw [e0]
    exact Or.inr ⟨rfl, rfl, Or.inr (K_hostJ q1)⟩
theorem K_valueF {c : CS} {a : AA} {v : CV} {x k : Int32} (h : RC c a v) : cUpd a v (A_value a x k) (k_Face_value c 0 x k) (k_Face_machineWith_J c 0 x k) (k_Face_host_J c 0 x) := by
  unfold A_value
  by_cases q1 : aInR x 0 6 = true
  · obtain ⟨s, hs, e⟩ := inR_6 q1
    subst e
    rw [aKey_e hs]
    by_cases q2 : aS a 52 s = 0 ∨ k < 0
    · rw [if_pos q2]
      exact Or.inr ⟨rfl, rfl, Or.inl (K_withJ h hs (Or.inl q2))⟩
    · rw [if_neg q2]
      have qu : ¬ aS a 52 s = 0 := fun z => q2 (Or.inl z)
      have qx : ¬ k < 0 := fun z => q2 (Or.inr z)
      cases hg : (aMc a s).2[k.toNatClampNeg]? with
      | none => exact Or.inr ⟨rfl, rfl, Or.inl (K_withJ h hs (Or.inr hg))⟩
      | some E =>
        refine Or.inl ⟨rfl, ?_⟩
        obtain ⟨hw, hm⟩ := h.2.2.2.2.2.2.2.2.2.2.2.1 s hs
        obtain ⟨_, _, _, _, f, f1, f2, f3⟩ := KM0_f hm
        have f3 : ∀ i, i < (aMc a s).2.length → KMe c s (f i) ((aMc a s).2.getD i ([], [])) := f3
        obtain ⟨sl1, sl2⟩ := shL_wf hw.1
        obtain ⟨hl2, hK⟩ := List.getElem?_eq_some_iff.mp hg
        have eE : (aMc a s).2.getD k.toNatClampNeg ([], []) = E := by
          rw [List.getD_eq_getElem?_getD, hg]
          rfl
        obtain ⟨_, m8, _, m9⟩ := f3 _ hl2
        have hb := sl2 _ hl2
        rw [eE] at m8 m9 hb
        have hq := f1.1 k.toNatClampNeg (by omega)
        have e6 := f2 k.toNatClampNeg (by omega)
        obtain ⟨ex, ex2⟩ := i_ofx qx
        generalize f k.toNatClampNeg = q at m8 m9 hq e6
        unfold k_Face_value k_Face_value_b0 k_Machine_copyValue_15_6 k_Machine_copyValue_15_6_b0
        rw [K_with h hs qu qx hg]
        refine WP_b ?_
        rw [crd_n (c := c) (cl := 10) (i := s) (f := 6) ex (show k.toNatClampNeg < 128 by omega) (by omega), e6]
        have r8 : crd c 10 s 8 (Int32.ofNat q) = some (Int32.ofNat E.2.length) := by
          rw [crd_n (c := c) (cl := 10) (i := s) (f := 8) rfl (show q < 128 from hq) (by omega), m8]
        have P0 : PX 15 0 [6, 7] c (csA c 15 0 6 (fun w => if 0 ≤ w ∧ w < 0 + E.2.length then cI c 10 s 9 (132 * q + 32 + (w - 0)) else cI c 15 0 6 w)) := PX_A (by decide)
        have r8' : crd (csA c 15 0 6 (fun w => if 0 ≤ w ∧ w < 0 + E.2.length then cI c 10 s 9 (132 * q + 32 + (w - 0)) else cI c 15 0 6 w)) 10 s 8 (Int32.ofNat q) = some (Int32.ofNat E.2.length) := by
          rw [crd_n (cl := 10) (i := s) (f := 8) rfl (show q < 128 from hq) (by omega), PX_c P0 (by decide), m8]
        have g6 : ∀ i, i < E.2.length → cI (csA c 15 0 6 (fun w => if 0 ≤ w ∧ w < 0 + E.2.length then cI c 10 s 9 (132 * q + 32 + (w - 0)) else cI c 15 0 6 w)) 15 0 6 i = E.2.getD i 0 := by
          intro i hi
          rw [cI_A, if_pos ⟨Nat.zero_le _, by omega⟩, show 132 * q + 32 + (i - 0) = 132 * q + 32 + i by omega]
          exact m9 i hi
        have cp := ccpy_n (c := c) (a := 10) (i := s) (f := 9) (s := 132 * q + 32) (a' := 15) (i' := 0) (f' := 6) (t := 0) (n := E.2.length) (x := Int32.ofNat q * 132 + 32) (y := 0) (by rw [i_132]; exact (Int32.ofNat_add (132 * q) 32).symm) rfl rfl (show 132 * q + 32 + E.2.length ≤ 16896 by omega) (show 0 + E.2.length ≤ 134 by omega) (by omega) (by omega)
        generalize csA c 15 0 6 (fun w => if 0 ≤ w ∧ w < 0 + E.2.length then cI c 10 s 9 (132 * q + 32 + (w - 0)) else cI c 15 0 6 w) = c1 at P0 g6 cp r8'
        refine WP_call (Q1 := fun p => p.1 = Int32.ofNat E.2.length ∧ p.2 = c1) ?_ (fun p hp => ?_)
        · refine WP_b (WP_eq r8 (WP_eq cp (WP_eq r8' (WP_some ⟨rfl, rfl⟩))))
        · obtain ⟨e1, e2⟩ := hp
          rw [e1, e2]
          refine WP_b (WP_some ⟨RC_re h (PX_t P0 (PX_I (by decide))) csI_e (by omega) (fun i hi => (csI_f (by decide)).trans (g6 i hi)), ?_⟩)
          show cI (csI c1 15 0 7 0 (Int32.ofNat E.2.length)) 15 0 7 0 = Int32.ofNat E.2.length
          exact csI_e
  · have q1 := b_false q1
    have e0 : aKey a x k = none := by
      unfold aKey
      rw [q1]
      rfl
    rw [e0]
    exact Or.inr ⟨rfl, rfl, Or.inr (K_hostJ q1)⟩
/-! the face: the tape, the net's settings, letters meddled with -/
def cUp1 (v : CV) (r : AR) (k : Option (Int32 × CS)) (t : Option CS) : Prop := (r.2.1 = 0 ∧ WP k (fun p => RC p.2 r.1 v ∧ p.1 = r.2.2)) ∨ (r.2.1 = 1 ∧ WP t (fun c' => RC c' r.1 v))
theorem RC_tp {c c' : CS} {a : AA} {v : CV} {t : List Int32} (h : RC c a v) (P : PX 15 0 [4, 5] c c') (e5 : cI c' 15 0 5 0 = Int32.ofNat t.length) (hl : t.length ≤ 400) (e4 : ∀ i, i < t.length → cI c' 15 0 4 i = t.getD i 0) : RC c' (aTpS a t) v := by
  have hF : Ck [484, 485] 0 c c' := PX_k P (Or.inl rfl) (by decide)
  have hT := P.2.1
  obtain ⟨_, _, _, f4, f5, f6⟩ := h.2.2.2.2.2.2.2.2.2.2.2.2.2.2.2.2.1
  have hfc : KFc c' (aTp (aTpS a t)) (aRe (aTpS a t)) := ⟨e5, hl, e4, (PX_o P (by decide)).trans f4, f5, fun i hi => (PX_o P (by decide)).trans (f6 i hi)⟩
  exact ⟨KSc_fr hF (by decide) h.1, fun s hs hu => KFr_fr hF (by decide) (h.2.1 s hs hu), fun s hs => KHd_fr hF (by decide) (h.2.2.1 s hs), fun s hs hr => KLd_fr hF (by decide) (h.2.2.2.1 s hs hr), fun s hs hu => KRq_fr hF (by decide) (h.2.2.2.2.1 s hs hu), KBl_fr hF (by decide) h.2.2.2.2.2.1, KDa_fr hF (by decide) h.2.2.2.2.2.2.1, fun s hs => KLw_fr hF (by decide) (h.2.2.2.2.2.2.2.1 s hs), fun s hs => KG_fr hF (by decide) (h.2.2.2.2.2.2.2.2.1 s hs), fun s hs => KPg_fr hF (by decide) (h.2.2.2.2.2.2.2.2.2.1 s hs), fun s hs => KCh_fr hF (by decide) (h.2.2.2.2.2.2.2.2.2.2.1 s hs), fun s hs => KMc_fr hF (by decide) (h.2.2.2.2.2.2.2.2.2.2.2.1 s hs), fun s hs => KPc_fr hF (by decide) (h.2.2.2.2.2.2.2.2.2.2.2.2.1 s hs), fun k hk => KCl_fr hF (by decide) (h.2.2.2.2.2.2.2.2.2.2.2.2.2.1 k hk), fun k hk => KDn_fr hF (by decide) (h.2.2.2.2.2.2.2.2.2.2.2.2.2.2.1 k hk), KAk_fr hF (by decide) h.2.2.2.2.2.2.2.2.2.2.2.2.2.2.2.1, hfc, fun s hs => KId_fr hF (by decide) (h.2.2.2.2.2.2.2.2.2.2.2.2.2.2.2.2.2.1 s hs), fun k hk => KIc_fr hF (by decide) (h.2.2.2.2.2.2.2.2.2.2.2.2.2.2.2.2.2.2.1 k hk), KLt_fr hF hT (by decide) h.2.2.2.2.2.2.2.2.2.2.2.2.2.2.2.2.2.2.2.1, KRm_fr hF hT (by decide) h.2.2.2.2.2.2.2.2.2.2.2.2.2.2.2.2.2.2.2.2.1, h.2.2.2.2.2.2.2.2.2.2.2.2.2.2.2.2.2.2.2.2.2.1, h.2.2.2.2.2.2.2.2.2.2.2.2.2.2.2.2.2.2.2.2.2.2⟩
theorem K_tp1 {c : CS} {a : AA} {v : CV} {b : Int32} (h : RC c a v) (hl : (aTp a).length < 400) : ∃ c', cwr c 15 0 4 (cI c 15 0 5 0) b = some c' ∧ RC (csI c' 15 0 5 0 (cI c' 15 0 5 0 + 1)) (aTpS a (aTp a ++ [b])) v := by
  obtain ⟨f1, f2, f3, _⟩ := h.2.2.2.2.2.2.2.2.2.2.2.2.2.2.2.2.1
  refine ⟨_, cwr_n f1 (show (aTp a).length < 400 from hl) (by omega), ?_⟩
  have P1 : PX 15 0 [4, 5] c (csI c 15 0 4 (aTp a).length b) := PX_I (by decide)
  have e5 : cI (csI c 15 0 4 (aTp a).length b) 15 0 5 0 = Int32.ofNat (aTp a).length := (csI_f (by decide)).trans f1
  have e4 : cI (csI c 15 0 4 (aTp a).length b) 15 0 4 (aTp a).length = b := csI_e
  have e4o : ∀ i, i ≠ (aTp a).length → cI (csI c 15 0 4 (aTp a).length b) 15 0 4 i = cI c 15 0 4 i := fun i hi => csI_j hi
  generalize csI c 15 0 4 (aTp a).length b = c1 at P1 e5 e4 e4o
  rw [e5, i_s]
  refine RC_tp h (PX_t P1 (PX_I (by decide))) ?_ ?_ (fun i hi => ?_)
  · rw [List.length_append]
    exact csI_e
  · rw [List.length_append]
    show (aTp a).length + 1 ≤ 400
    omega
  · rw [csI_f (show (4 : Nat) ≠ 5 by decide), getD_app]
    rw [List.length_append] at hi
    have hi : i < (aTp a).length + 1 := hi
    by_cases q : i = (aTp a).length
    · rw [q, e4, if_neg (Nat.lt_irrefl _), if_pos rfl]
    · rw [e4o i q, if_pos (by omega)]
      exact f3 i (by omega)
theorem tp_t {a : AA} {s t : List Int32} : aTpS (aTpS a s) t = aTpS a t := rfl
theorem K_tape {F : Nat} {c : CS} {a : AA} {v : CV} {x : Int32} (hF : 5 ≤ F) (h : RC c a v) (hl : (aTp a).length + 4 ≤ 400) : WP (k_Face_putOnTape F c 0 x) (fun c' => RC c' (aTpS a (aTp a ++ a4 x)) v) := by
  obtain ⟨n, rfl⟩ : ∃ n, F = n + 5 := ⟨F - 5, by omega⟩
  have f2 : ∀ j, j < 5 → (24 : Int32) - 8 * Int32.ofNat j + (-8 : Int32) = 24 - 8 * Int32.ofNat (j + 1) := by decide
  have f1 : ∀ j, j < 4 → ¬ (24 : Int32) - 8 * Int32.ofNat j < 0 := by decide
  have f3 : ∀ j, j < 4 → aLow8 (x >>> (((24 : Int32) - 8 * Int32.ofNat j) &&& 31)) = (a4 x).getD j 0 := by
    intro j hj
    match j, hj with
    | 0, _ => rfl
    | 1, _ => rfl
    | 2, _ => rfl
    | 3, _ =>
      show aLow8 (x >>> 0) = aLow8 x
      rw [Int32.shiftRight_zero]
  have key : ∀ m j (c1 : CS), 5 ≤ j + m → j ≤ 4 → RC c1 (aTpS a (aTp a ++ (a4 x).take j)) v → WP (k_Face_putOnTape_b3 (n + 5) m c1 0 x ((24 : Int32) - 8 * Int32.ofNat j)) (fun c' => RC c' (aTpS a (aTp a ++ a4 x)) v) := by
    intro m
    induction m with
    | zero => intro j c1 h1 h2; omega
    | succ m ih =>
      intro j c1 h1 h2 h3
      unfold k_Face_putOnTape_b3 k_Face_putOnTape_b40
      by_cases q : j = 4
      · subst q
        exact WP_if c0_lt (fun _ => WP_some h3) (fun y => absurd (by decide) y)
      · refine WP_if c0_lt (fun y => absurd y (f1 j (by omega))) (fun _ => ?_)
        have el : (aTp (aTpS a (aTp a ++ (a4 x).take j))).length = (aTp a).length + j := by
          show (aTp a ++ (a4 x).take j).length = _
          rw [List.length_append, List.length_take]
          have : (a4 x).length = 4 := rfl
          omega
        have e5 : cI c1 15 0 5 0 = Int32.ofNat ((aTp a).length + j) := by
          rw [(h3.2.2.2.2.2.2.2.2.2.2.2.2.2.2.2.2.1).1, el]
        refine WP_if g2_ge (fun y => ?_) (fun _ => ?_)
        · rw [e5, Int32.toInt_ofNat_of_lt (by omega), L_400] at y
          omega
        obtain ⟨c2, k1, k2⟩ := K_tp1 (b := ((x >>> (((24 : Int32) - 8 * Int32.ofNat j) &&& 31)).toInt8.toInt32).toInt8.toInt32) h3 (by rw [el]; omega)
        refine WP_eq k1 (WP_b ?_)
        rw [f2 j (by omega)]
        refine ih (j + 1) _ (by omega) (by omega) ?_
        rw [i_b8, show (x >>> (((24 : Int32) - 8 * Int32.ofNat j) &&& 31)).toInt8.toInt32 = (a4 x).getD j 0 from f3 j (by omega)] at k2
        have et : aTp a ++ (a4 x).take (j + 1) = aTp (aTpS a (aTp a ++ (a4 x).take j)) ++ [(a4 x).getD j 0] := by
          rw [take_s (d := 0) (show j < (a4 x).length from Nat.lt_of_lt_of_le (by omega) (Nat.le_refl 4)), ← List.append_assoc]
          rfl
        rw [et]
        exact k2
  unfold k_Face_putOnTape k_Face_putOnTape_b0
  exact key (n + 5) 0 c (by omega) (Nat.zero_le _) (by
    have e : aTpS a (aTp a ++ (a4 x).take 0) = a := by
      rw [List.take_zero, List.append_nil]
      rfl
    rw [e]
    exact h)
theorem K_feedF {F : Nat} {c : CS} {a : AA} {v : CV} {x : Nat → Int32} (hF : 5 ≤ F) (h : RC c a v) : cUp1 v (A_feed a x) (k_Face_feed F c 0 (x 0) (x 1) (x 2) (x 3) (x 4)) (k_Face_feed_S F c 0 (x 0) (x 1) (x 2) (x 3) (x 4)) := by
  obtain ⟨f1, f2, _⟩ := h.2.2.2.2.2.2.2.2.2.2.2.2.2.2.2.2.1
  have ec : xc2 .le (cI c 15 0 5 0 + 20) 400 = true ↔ ¬ 400 < (aTp a).length + 20 := by
    rw [f1, show (20 : Int32) = Int32.ofNat 20 from rfl, i_ad, show (400 : Int32) = Int32.ofNat 400 from rfl, i_lei (by omega) (by omega)]
    omega
  unfold A_feed
  by_cases q : 400 < (aTp a).length + 20
  · rw [if_pos q]
    refine Or.inr ⟨rfl, ?_⟩
    unfold k_Face_feed_S k_Face_feed_S_b0
    rw [if_neg (fun z => ec.mp z q)]
    exact WP_some h
  · rw [if_neg q]
    refine Or.inl ⟨rfl, ?_⟩
    unfold k_Face_feed k_Face_feed_b0
    rw [if_pos (ec.mpr q)]
    have l4 : ∀ y : Int32, (a4 y).length = 4 := fun _ => rfl
    refine WP_call (K_tape (x := x 0) hF h (by omega)) (fun c1 h1 => ?_)
    refine WP_call (K_tape (x := x 1) hF h1 (by rw [aTp_S, List.length_append, l4]; omega)) (fun c2 h2 => ?_)
    refine WP_call (K_tape (x := x 2) hF h2 (by rw [aTp_S, aTp_S, List.length_append, List.length_append, l4, l4]; omega)) (fun c3 h3 => ?_)
    refine WP_call (K_tape (x := x 3) hF h3 (by rw [aTp_S, aTp_S, aTp_S, List.length_append, List.length_append, List.length_append, l4, l4, l4]; omega)) (fun c4 h4 => ?_)
    refine WP_call (K_tape (x := x 4) hF h4 (by rw [aTp_S, aTp_S, aTp_S, aTp_S, List.length_append, List.length_append, List.length_append, List.length_append, l4, l4, l4, l4]; omega)) (fun c5 h5 => WP_some ⟨h5, ?_⟩)
    have t5 := (h5.2.2.2.2.2.2.2.2.2.2.2.2.2.2.2.2.1).1
    have e1 : (aTp a ++ a4 (x 0) ++ a4 (x 1) ++ a4 (x 2) ++ a4 (x 3) ++ a4 (x 4)).length = (aTp a).length + 20 := by
      rw [List.length_append, List.length_append, List.length_append, List.length_append, List.length_append, l4, l4, l4, l4, l4]
    show cI c5 15 0 5 0 = _
    rw [t5]
    exact congrArg Int32.ofNat e1
theorem K_endF {c : CS} {a : AA} {v : CV} {n : Int32} (h : RC c a v) : ((A_end a n).2.1 = 0 ∧ WP (k_Face_end c 0 n) (fun p => RC p.2 (A_end a n).1 v ∧ p.1 = (A_end a n).2.2)) ∨ ((A_end a n).2.1 = 1 ∧ WP (k_Face_end_A c 0 n) (fun c' => RC c' (A_end a n).1 v)) ∨ ((A_end a n).2.1 = 2 ∧ WP (k_Face_end_S c 0 n) (fun c' => RC c' (A_end a n).1 v)) := by
  obtain ⟨f1, f2, f3, _⟩ := h.2.2.2.2.2.2.2.2.2.2.2.2.2.2.2.2.1
  have el := Int32.toInt_ofNat_of_lt (n := (aTp a).length) (by omega)
  unfold A_end
  by_cases q : aInR n 0 20 = true
  · rw [q]
    obtain ⟨m, e1, e2⟩ := in_nat2 (hi := 20) (by omega) q
    subst e1
    have em := Int32.toInt_ofNat_of_lt (n := m) (by omega)
    rw [i_cl (by omega)]
    by_cases q2 : (aTp a).length < 20
    · rw [if_neg (show ¬ (!true) = true by decide), if_pos q2]
      refine Or.inr (Or.inr ⟨rfl, ?_⟩)
      unfold k_Face_end_S k_Face_end_S_b0
      rw [if_neg (fun z => by have z := g0_lt.mp z; omega), if_pos (g2_le.mpr (by rw [L_20]; omega)), if_neg (fun z => by have z := g2_ge.mp z; rw [f1, el, L_20] at z; omega)]
      exact WP_some h
    · rw [if_neg (show ¬ (!true) = true by decide), if_neg q2]
      refine Or.inl ⟨rfl, ?_⟩
      unfold k_Face_end k_Face_end_b0
      rw [if_neg (fun z => by have z := g0_lt.mp z; omega), if_pos (g2_le.mpr (by rw [L_20]; omega)), if_pos (g2_ge.mpr (by rw [f1, el, L_20]; omega))]
      have e5 : cI c 15 0 5 0 - (20 - Int32.ofNat m) = Int32.ofNat ((aTp a).length - (20 - m)) := by
        rw [f1, show (20 : Int32) = Int32.ofNat 20 from rfl, i_subn e2, i_subn (by omega)]
      rw [e5]
      have ln : ((aTp a).take ((aTp a).length - (20 - m))).length = (aTp a).length - (20 - m) := by
        rw [List.length_take]
        omega
      refine WP_b (WP_some ⟨RC_tp h (PX_I (by decide)) ?_ ?_ (fun i hi => ?_), ?_⟩)
      · rw [ln]
        exact csI_e
      · rw [ln]
        omega
      · rw [ln] at hi
        rw [csI_f (show (4 : Nat) ≠ 5 by decide), f3 i (by omega), List.getD_eq_getElem?_getD, List.getD_eq_getElem?_getD, List.getElem?_take_of_lt hi]
      · show cI (csI c 15 0 5 0 (Int32.ofNat ((aTp a).length - (20 - m)))) 15 0 5 0 = _
        exact csI_e
  · have q := b_false q
    rw [q, if_pos (show (!false) = true by decide)]
    refine Or.inr (Or.inl ⟨rfl, ?_⟩)
    have q := inR_n.mp q
    rw [i_0, L_20] at q
    unfold k_Face_end_A k_Face_end_A_b0 k_Face_end_A_b10
    by_cases q2 : n.toInt < 0
    · rw [if_pos (g0_lt.mpr q2)]
      exact WP_some h
    · rw [if_neg (fun z => q2 (g0_lt.mp z)), if_neg (fun z => by have z := g2_le.mp z; rw [L_20] at z; omega)]
      exact WP_some h
theorem RC_23 {c : CS} {a : AA} {v : CV} {k : Nat} {x : Int32} (h : RC c a v) : RC (csI c 14 0 12 k x) (aI a 23 k x) v := by
  have hF : Ck [460] 0 c (csI c 14 0 12 k x) := Ck_I (cl := 14) (f := 12) (Or.inl rfl)
  have e := eI1 (a := a) (f := 23) (i := k) (x := x)
  obtain ⟨d1, d2, d3, d4⟩ := h.2.2.2.2.2.2.1
  have hda : KDa (csI c 14 0 12 k x) (aI a 23 k x) := by
    refine ⟨fun j hj => ?_, fun s hs => (csI_f (by decide)).trans ((d2 s hs).trans (aS_If (by decide)).symm), d3, d4⟩
    by_cases q : j = k
    · rw [q]
      exact csI_e.trans (if_pos ⟨rfl, rfl⟩).symm
    · exact (csI_j q).trans ((d1 j hj).trans (if_neg (fun z => q z.2)).symm)
  exact ⟨KSc_k hF (by decide) e (by decide) h.1, fr_k hF (by decide) e (by decide) h.2.1, hd_k hF (by decide) e (by decide) h.2.2.1, ld_k hF (by decide) e (by decide) h.2.2.2.1, rq_k hF (by decide) e (by decide) rfl h.2.2.2.2.1, bl_k hF (by decide) e (by decide) h.2.2.2.2.2.1, hda, lw_k hF (by decide) e (by decide) h.2.2.2.2.2.2.2.1, fun s hs => KG_fr hF (by decide) (h.2.2.2.2.2.2.2.2.1 s hs), fun s hs => KPg_fr hF (by decide) (h.2.2.2.2.2.2.2.2.2.1 s hs), fun s hs => KCh_fr hF (by decide) (h.2.2.2.2.2.2.2.2.2.2.1 s hs), fun s hs => KMc_fr hF (by decide) (h.2.2.2.2.2.2.2.2.2.2.2.1 s hs), pc_k hF (by decide) e (by decide) rfl h.2.2.2.2.2.2.2.2.2.2.2.2.1, cl_k hF (by decide) e (by decide) h.2.2.2.2.2.2.2.2.2.2.2.2.2.1, fun k hk => KDn_fr hF (by decide) (h.2.2.2.2.2.2.2.2.2.2.2.2.2.2.1 k hk), KAk_fr hF (by decide) h.2.2.2.2.2.2.2.2.2.2.2.2.2.2.2.1, KFc_fr hF (by decide) h.2.2.2.2.2.2.2.2.2.2.2.2.2.2.2.2.1, id_k hF (by decide) e (by decide) h.2.2.2.2.2.2.2.2.2.2.2.2.2.2.2.2.2.1, fun k hk => KIc_fr hF (by decide) (h.2.2.2.2.2.2.2.2.2.2.2.2.2.2.2.2.2.2.1 k hk), KLt_fr hF rfl (by decide) h.2.2.2.2.2.2.2.2.2.2.2.2.2.2.2.2.2.2.2.1, KRm_fr hF rfl (by decide) h.2.2.2.2.2.2.2.2.2.2.2.2.2.2.2.2.2.2.2.2.1, sh_k e (by decide) rfl rfl h.2.2.2.2.2.2.2.2.2.2.2.2.2.2.2.2.2.2.2.2.2.1, nw_k e (by decide) h.2.2.2.2.2.2.2.2.2.2.2.2.2.2.2.2.2.2.2.2.2.2⟩
theorem RC_72 {c : CS} {a : AA} {v : CV} {s : Nat} {x : Int32} (h : RC c a v) (hx : 0 ≤ x.toInt ∧ x.toInt ≤ 1000) : RC (csI c 14 0 13 s x) (aI a 72 s x) v := by
  have hF : Ck [461] 0 c (csI c 14 0 13 s x) := Ck_I (cl := 14) (f := 13) (Or.inl rfl)
  have e := eI1 (a := a) (f := 72) (i := s) (x := x)
  obtain ⟨d1, d2, d3, d4⟩ := h.2.2.2.2.2.2.1
  have hda : KDa (csI c 14 0 13 s x) (aI a 72 s x) := by
    refine ⟨fun j hj => (csI_f (by decide)).trans ((d1 j hj).trans (aS_If (by decide)).symm), fun t ht => ?_, d3, d4⟩
    by_cases q : t = s
    · rw [q]
      exact csI_e.trans (if_pos ⟨rfl, rfl⟩).symm
    · exact (csI_j q).trans ((d2 t ht).trans (if_neg (fun z => q z.2)).symm)
  obtain ⟨n1, n2, n3, n4, n5, n6⟩ := h.2.2.2.2.2.2.2.2.2.2.2.2.2.2.2.2.2.2.2.2.2.2
  have hnw : nwOK (aI a 72 s x) := by
    refine ⟨n1, n2, fun t ht => ?_, n4, n5, n6⟩
    rw [aS_I]
    by_cases q : t = s
    · rw [if_pos ⟨rfl, q⟩, Int32.le_iff_toInt_le, Int32.le_iff_toInt_le, i_0, L_1000]
      exact hx
    · rw [if_neg (fun z => q z.2)]
      exact n3 t ht
  exact ⟨KSc_k hF (by decide) e (by decide) h.1, fr_k hF (by decide) e (by decide) h.2.1, hd_k hF (by decide) e (by decide) h.2.2.1, ld_k hF (by decide) e (by decide) h.2.2.2.1, rq_k hF (by decide) e (by decide) rfl h.2.2.2.2.1, bl_k hF (by decide) e (by decide) h.2.2.2.2.2.1, hda, lw_k hF (by decide) e (by decide) h.2.2.2.2.2.2.2.1, fun s hs => KG_fr hF (by decide) (h.2.2.2.2.2.2.2.2.1 s hs), fun s hs => KPg_fr hF (by decide) (h.2.2.2.2.2.2.2.2.2.1 s hs), fun s hs => KCh_fr hF (by decide) (h.2.2.2.2.2.2.2.2.2.2.1 s hs), fun s hs => KMc_fr hF (by decide) (h.2.2.2.2.2.2.2.2.2.2.2.1 s hs), pc_k hF (by decide) e (by decide) rfl h.2.2.2.2.2.2.2.2.2.2.2.2.1, cl_k hF (by decide) e (by decide) h.2.2.2.2.2.2.2.2.2.2.2.2.2.1, fun k hk => KDn_fr hF (by decide) (h.2.2.2.2.2.2.2.2.2.2.2.2.2.2.1 k hk), KAk_fr hF (by decide) h.2.2.2.2.2.2.2.2.2.2.2.2.2.2.2.1, KFc_fr hF (by decide) h.2.2.2.2.2.2.2.2.2.2.2.2.2.2.2.2.1, id_k hF (by decide) e (by decide) h.2.2.2.2.2.2.2.2.2.2.2.2.2.2.2.2.2.1, fun k hk => KIc_fr hF (by decide) (h.2.2.2.2.2.2.2.2.2.2.2.2.2.2.2.2.2.2.1 k hk), KLt_fr hF rfl (by decide) h.2.2.2.2.2.2.2.2.2.2.2.2.2.2.2.2.2.2.2.1, KRm_fr hF rfl (by decide) h.2.2.2.2.2.2.2.2.2.2.2.2.2.2.2.2.2.2.2.2.1, sh_k e (by decide) rfl rfl h.2.2.2.2.2.2.2.2.2.2.2.2.2.2.2.2.2.2.2.2.2.1, hnw⟩
theorem RC_27 {c : CS} {a : AA} {v : CV} {x : Int32} (h : RC c a v) (hx : 0 ≤ x.toInt ∧ x.toInt ≤ 1000) : RC (csI c 14 0 8 0 x) (aI a 27 0 x) v := by
  have hF : Ck [456] 0 c (csI c 14 0 8 0 x) := Ck_I (cl := 14) (f := 8) (Or.inl rfl)
  have e := eI1 (a := a) (f := 27) (i := 0) (x := x)
  obtain ⟨n1, n2, n3, n4, n5, n6⟩ := h.2.2.2.2.2.2.2.2.2.2.2.2.2.2.2.2.2.2.2.2.2.2
  have hnw : nwOK (aI a 27 0 x) := by
    refine ⟨n1, n2, n3, n4, ?_, ?_⟩
    · rw [aS_I, if_pos ⟨rfl, rfl⟩]
      exact hx.1
    · rw [aS_I, if_pos ⟨rfl, rfl⟩]
      exact hx.2
  exact ⟨KSc_I (by decide) h.1, fr_k hF (by decide) e (by decide) h.2.1, hd_k hF (by decide) e (by decide) h.2.2.1, ld_k hF (by decide) e (by decide) h.2.2.2.1, rq_k hF (by decide) e (by decide) rfl h.2.2.2.2.1, bl_k hF (by decide) e (by decide) h.2.2.2.2.2.1, da_k hF (by decide) e (by decide) rfl h.2.2.2.2.2.2.1, lw_k hF (by decide) e (by decide) h.2.2.2.2.2.2.2.1, fun s hs => KG_fr hF (by decide) (h.2.2.2.2.2.2.2.2.1 s hs), fun s hs => KPg_fr hF (by decide) (h.2.2.2.2.2.2.2.2.2.1 s hs), fun s hs => KCh_fr hF (by decide) (h.2.2.2.2.2.2.2.2.2.2.1 s hs), fun s hs => KMc_fr hF (by decide) (h.2.2.2.2.2.2.2.2.2.2.2.1 s hs), pc_k hF (by decide) e (by decide) rfl h.2.2.2.2.2.2.2.2.2.2.2.2.1, cl_k hF (by decide) e (by decide) h.2.2.2.2.2.2.2.2.2.2.2.2.2.1, fun k hk => KDn_fr hF (by decide) (h.2.2.2.2.2.2.2.2.2.2.2.2.2.2.1 k hk), KAk_fr hF (by decide) h.2.2.2.2.2.2.2.2.2.2.2.2.2.2.2.1, KFc_fr hF (by decide) h.2.2.2.2.2.2.2.2.2.2.2.2.2.2.2.2.1, id_k hF (by decide) e (by decide) h.2.2.2.2.2.2.2.2.2.2.2.2.2.2.2.2.2.1, fun k hk => KIc_fr hF (by decide) (h.2.2.2.2.2.2.2.2.2.2.2.2.2.2.2.2.2.2.1 k hk), KLt_fr hF rfl (by decide) h.2.2.2.2.2.2.2.2.2.2.2.2.2.2.2.2.2.2.2.1, KRm_fr hF rfl (by decide) h.2.2.2.2.2.2.2.2.2.2.2.2.2.2.2.2.2.2.2.2.1, sh_k e (by decide) rfl rfl h.2.2.2.2.2.2.2.2.2.2.2.2.2.2.2.2.2.2.2.2.2.1, hnw⟩
theorem K_isEnd {c : CS} {x : Int32} : k_Face_isEndpoint c x = some (aB (aEnd x)) := by
  have e : aEnd x = decide (0 ≤ x.toInt ∧ x.toInt < 16 ∧ ¬ x.toInt = 7) := by
    unfold aEnd
    cases z1 : aInR x 0 6 with
    | true =>
      have z := inR_t.mp z1
      rw [i_0, L_6] at z
      rw [Bool.true_or, decide_eq_true (by omega)]
    | false =>
      have z := inR_n.mp z1
      rw [i_0, L_6] at z
      cases z2 : aInR x 8 15 with
      | true =>
        have z := inR_t.mp z2
        rw [L_8, L_15] at z
        rw [Bool.or_true, decide_eq_true (by omega)]
      | false =>
        have y := inR_n.mp z2
        rw [L_8, L_15] at y
        rw [Bool.or_false, decide_eq_false (by omega)]
  rw [e]
  unfold k_Face_isEndpoint k_Face_isEndpoint_b0 k_Face_isEndpoint_b20 k_Face_isEndpoint_b21
  rw [if_pos (Or.inl rfl), if_pos (Or.inr rfl)]
  by_cases q : x.toInt < 0
  · rw [if_pos (g0_lt.mpr q), decide_eq_false (by omega)]
    rfl
  rw [if_neg (fun z => q (g0_lt.mp z))]
  by_cases q2 : 16 ≤ x.toInt
  · rw [if_pos (g2_ge.mpr (by rw [L_16]; exact q2)), decide_eq_false (by omega)]
    rfl
  rw [if_neg (fun z => q2 (by have z := g2_ge.mp z; rw [L_16] at z; exact z))]
  by_cases q3 : x = 7
  · rw [if_pos (c2_eq.mpr q3), decide_eq_false (fun z => z.2.2 (by rw [q3]; exact L_7))]
    rfl
  · rw [if_neg (fun z => q3 (c2_eq.mp z)), decide_eq_true ⟨by omega, by omega, fun z => q3 (Int32.toInt_inj.mp (z.trans L_7.symm))⟩]
    rfl
theorem end_n {x : Int32} (h : aEnd x = true) : ∃ n, n < 16 ∧ x = Int32.ofNat n := by
  unfold aEnd at h
  rw [Bool.or_eq_true_iff, inR_t, inR_t, i_0, L_6, L_8, L_15] at h
  refine ⟨x.toInt.toNat, by omega, ?_⟩
  apply Int32.toInt_inj.mp
  rw [Int32.toInt_ofNat_of_lt (by omega)]
  omega
theorem K_delayF {c : CS} {a : AA} {v : CV} {f t n : Int32} (h : RC c a v) : ((A_delay a f t n).2.1 = 0 ∧ WP (k_Face_delay c 0 f t n) (fun p => RC p.2 (A_delay a f t n).1 v ∧ p.1 = (A_delay a f t n).2.2)) ∨ ((A_delay a f t n).2.1 = 2 ∧ WP (k_Face_delay_A c 0 f t n) (fun c' => RC c' (A_delay a f t n).1 v)) ∨ ((A_delay a f t n).2.1 = 1 ∧ WP (k_Face_delay_J c 0 f t n) (fun c' => RC c' (A_delay a f t n).1 v)) := by
  have o1 : ¬ aB true = 0 := by decide
  have o0 : ¬ ¬ aB false = 0 := by decide
  have jn : (aEnd f = false ∨ aEnd t = false) → WP (k_Face_delay_J c 0 f t n) (fun c' => RC c' a v) := by
    intro q
    unfold k_Face_delay_J k_Face_delay_J_b0 k_Face_delay_J_b14
    rw [K_isEnd, K_isEnd]
    refine WP_b ?_
    cases z : aEnd f with
    | false =>
      rw [if_pos (show xc0 .eq (aB false) = true by decide)]
      exact WP_some h
    | true =>
      rw [if_neg (fun y => o1 (c0_eq.mp y))]
      refine WP_b ?_
      rw [q.resolve_left (by rw [z]; decide), if_neg (fun y => o0 (c0_ne.mp y))]
      exact WP_some h
  unfold A_delay
  by_cases q1 : aEnd f = true
  · by_cases q2 : aEnd t = true
    · rw [q1, q2, if_neg (show ¬ (!true || !true) = true by decide)]
      by_cases q3 : aInR n 1 1000 = true
      · rw [q3, if_neg (show ¬ (!true) = true by decide)]
        refine Or.inl ⟨rfl, ?_⟩
        obtain ⟨p, hp, ep⟩ := end_n q1
        obtain ⟨r, hr, er⟩ := end_n q2
        have q3 := inR_t.mp q3
        rw [L_1, L_1000] at q3
        unfold k_Face_delay k_Face_delay_b0
        rw [K_isEnd, K_isEnd, q1, q2]
        refine WP_b ?_
        rw [if_neg (fun y => o1 (c0_eq.mp y))]
        refine WP_b ?_
        rw [if_pos (c0_ne.mpr o1), if_neg (fun z => by have z := g2_lt.mp z; rw [L_1] at z; omega), if_pos (g2_le.mpr (by rw [L_1000]; omega))]
        have ei : f * 16 + t = Int32.ofNat (16 * p + r) := by
          rw [ep, er, show (16 : Int32) = Int32.ofNat 16 from rfl, ← Int32.ofNat_mul, i_ad, Nat.mul_comm]
        have ei2 : (16 * f + t).toNatClampNeg = 16 * p + r := by
          rw [ep, er, show (16 : Int32) = Int32.ofNat 16 from rfl, ← Int32.ofNat_mul, i_ad, i_cl (by omega)]
        rw [ei, ei2, crd_n (c := c) (cl := 14) (i := 0) (f := 12) rfl (show 16 * p + r < 256 by omega) (by omega)]
        refine WP_b ?_
        rw [cwr_n (c := c) (cl := 14) (i := 0) (f := 12) rfl (show 16 * p + r < 256 by omega) (by omega)]
        exact WP_b (WP_some ⟨RC_23 h, (h.2.2.2.2.2.2.1).1 _ (by omega)⟩)
      · have q3 := b_false q3
        rw [q3, if_pos (show (!false) = true by decide)]
        refine Or.inr (Or.inl ⟨rfl, ?_⟩)
        have q3 := inR_n.mp q3
        rw [L_1, L_1000] at q3
        unfold k_Face_delay_A k_Face_delay_A_b0 k_Face_delay_A_b34
        rw [K_isEnd, K_isEnd, q1, q2]
        refine WP_b ?_
        rw [if_neg (fun y => o1 (c0_eq.mp y))]
        refine WP_b ?_
        rw [if_pos (c0_ne.mpr o1)]
        by_cases q4 : n.toInt < 1
        · rw [if_pos (g2_lt.mpr (by rw [L_1]; exact q4))]
          exact WP_some h
        · rw [if_neg (fun z => by have z := g2_lt.mp z; rw [L_1] at z; omega), if_neg (fun z => by have z := g2_le.mp z; rw [L_1000] at z; omega)]
          exact WP_some h
    · have q2 := b_false q2
      rw [q2, show (!aEnd f || !false) = true by rw [q1]; rfl, if_pos rfl]
      exact Or.inr (Or.inr ⟨rfl, jn (Or.inr q2)⟩)
  · have q1 := b_false q1
    rw [q1, show (!false || !aEnd t) = true by cases aEnd t <;> rfl, if_pos rfl]
    exact Or.inr (Or.inr ⟨rfl, jn (Or.inl q1)⟩)
theorem K_partN {c : CS} {a : AA} {v : CV} {n : Int32} (h : RC c a v) : cUp1 v (A_part a n) (k_Face_part c 0 n) (k_Face_part_A c 0 n) := by
  by_cases q : aInR n 0 65535 = true
  · refine Or.inl ⟨?_, K_partF h q⟩
    unfold A_part
    rw [q]
    rfl
  · have q := b_false q
    unfold A_part
    rw [q, if_pos (show (!false) = true by decide)]
    refine Or.inr ⟨rfl, ?_⟩
    have q := inR_n.mp q
    rw [i_0, L_65535] at q
    unfold k_Face_part_A k_Face_part_A_b0 k_Face_part_A_b10
    by_cases q2 : n.toInt < 0
    · rw [if_pos (g0_lt.mpr q2)]
      exact WP_some h
    · rw [if_neg (fun z => q2 (g0_lt.mp z)), if_neg (fun z => by have z := g2_lt.mp z; rw [L_65536] at z; omega)]
      exact WP_some h
theorem K_noiseF {c : CS} {a : AA} {v : CV} {x y z : Int32} {d : Int64} (h : RC c a v) : ((A_noise a x y z d).2.1 = 0 ∧ WP (k_Face_noise c 0 x y z d) (fun c' => RC c' (A_noise a x y z d).1 v)) ∨ ((A_noise a x y z d).2.1 = 1 ∧ WP (k_Face_noise_A c 0 x y z d) (fun c' => RC c' (A_noise a x y z d).1 v)) := by
  unfold A_noise
  by_cases q : aInR x 0 1000 = true ∧ aInR y 0 1000 = true ∧ aInR z 0 1000 = true
  · obtain ⟨q1, q2, q3⟩ := q
    rw [q1, q2, q3, if_neg (show ¬ (!true || !true || !true) = true by decide)]
    refine Or.inl ⟨rfl, ?_⟩
    have q1 := inR_t.mp q1
    have q2 := inR_t.mp q2
    have q3 := inR_t.mp q3
    rw [i_0, L_1000] at q1 q2 q3
    unfold k_Face_noise k_Face_noise_b0
    rw [if_neg (fun w => by have w := g0_lt.mp w; omega), if_neg (fun w => by have w := g2_gt.mp w; rw [L_1000] at w; omega), if_neg (fun w => by have w := g0_lt.mp w; omega), if_neg (fun w => by have w := g2_gt.mp w; rw [L_1000] at w; omega), if_neg (fun w => by have w := g0_lt.mp w; omega), if_pos (g2_le.mpr (by rw [L_1000]; omega))]
    have h1 := RC_I (x := x) h (F := 25) (cl := 14) (f := 6) (i := 0) (by decide) (by decide)
    have h2 := RC_I (x := y) h1 (F := 26) (cl := 14) (f := 7) (i := 0) (by decide) (by decide)
    exact WP_b (WP_b (WP_b (WP_b (WP_some (RC_J28 (RC_27 h2 q3))))))
  · have e0 : (!aInR x 0 1000 || !aInR y 0 1000 || !aInR z 0 1000) = true := by
      cases z1 : aInR x 0 1000 with
      | false => rfl
      | true => cases z2 : aInR y 0 1000 with
        | false => rfl
        | true => cases z3 : aInR z 0 1000 with
          | false => rfl
          | true => exact absurd ⟨z1, z2, z3⟩ q
    rw [e0, if_pos rfl]
    refine Or.inr ⟨rfl, ?_⟩
    rw [inR_t, inR_t, inR_t, i_0, L_1000] at q
    unfold k_Face_noise_A k_Face_noise_A_b0 k_Face_noise_A_b33
    by_cases p1 : x.toInt < 0
    · rw [if_pos (g0_lt.mpr p1)]
      exact WP_some h
    rw [if_neg (fun w => p1 (g0_lt.mp w))]
    by_cases p2 : 1000 < x.toInt
    · rw [if_pos (g2_gt.mpr (by rw [L_1000]; exact p2))]
      exact WP_some h
    rw [if_neg (fun w => p2 (by have w := g2_gt.mp w; rw [L_1000] at w; exact w))]
    by_cases p3 : y.toInt < 0
    · rw [if_pos (g0_lt.mpr p3)]
      exact WP_some h
    rw [if_neg (fun w => p3 (g0_lt.mp w))]
    by_cases p4 : 1000 < y.toInt
    · rw [if_pos (g2_gt.mpr (by rw [L_1000]; exact p4))]
      exact WP_some h
    rw [if_neg (fun w => p4 (by have w := g2_gt.mp w; rw [L_1000] at w; exact w))]
    by_cases p5 : z.toInt < 0
    · rw [if_pos (g0_lt.mpr p5)]
      exact WP_some h
    rw [if_neg (fun w => p5 (g0_lt.mp w)), if_neg (fun w => by have w := g2_le.mp w; rw [L_1000] at w; omega)]
    exact WP_some h
theorem K_latencyF {c : CS} {a : AA} {v : CV} {x n : Int32} (h : RC c a v) : ((A_latency a x n).2.1 = 0 ∧ WP (k_Face_latency c 0 x n) (fun p => RC p.2 (A_latency a x n).1 v ∧ p.1 = (A_latency a x n).2.2)) ∨ ((A_latency a x n).2.1 = 2 ∧ WP (k_Face_latency_A c 0 x n) (fun c' => RC c' (A_latency a x n).1 v)) ∨ ((A_latency a x n).1 = a ∧ (A_latency a x n).2.1 = 1 ∧ k_Face_host_J c 0 x = some ()) := by
  unfold A_latency
  by_cases q1 : aInR x 0 6 = true
  · obtain ⟨s, hs, e⟩ := inR_6 q1
    subst e
    rw [q1, if_neg (show ¬ (!true) = true by decide), i_cl (by omega)]
    by_cases q2 : aInR n 0 1000 = true
    · rw [q2, if_neg (show ¬ (!true) = true by decide)]
      refine Or.inl ⟨rfl, ?_⟩
      have q2 := inR_t.mp q2
      rw [i_0, L_1000] at q2
      unfold k_Face_latency k_Face_latency_b0
      rw [K_host hs]
      refine WP_b ?_
      rw [if_neg (fun w => by have w := g0_lt.mp w; omega), if_pos (g2_le.mpr (by rw [L_1000]; omega)), RC_b1 h hs, crd_n (c := c) (cl := 14) (i := 0) (f := 13) rfl (show s < 7 from hs) (by omega)]
      refine WP_b ?_
      rw [cwr_n (c := c) (cl := 14) (i := 0) (f := 13) rfl (show s < 7 from hs) (by omega)]
      exact WP_b (WP_some ⟨RC_72 h q2, (h.2.2.2.2.2.2.1).2.1 s hs⟩)
    · have q2 := b_false q2
      rw [q2, if_pos (show (!false) = true by decide)]
      refine Or.inr (Or.inl ⟨rfl, ?_⟩)
      have q2 := inR_n.mp q2
      rw [i_0, L_1000] at q2
      unfold k_Face_latency_A k_Face_latency_A_b0 k_Face_latency_A_b17
      rw [K_host hs]
      refine WP_b ?_
      by_cases q4 : n.toInt < 0
      · rw [if_pos (g0_lt.mpr q4)]
        exact WP_some h
      · rw [if_neg (fun z => q4 (g0_lt.mp z)), if_neg (fun z => by have z := g2_le.mp z; rw [L_1000] at z; omega)]
        exact WP_some h
  · have q1 := b_false q1
    rw [q1, if_pos (show (!false) = true by decide)]
    exact Or.inr (Or.inr ⟨rfl, rfl, K_hostJ q1⟩)
theorem K_meddleF {F : Nat} {c : CS} {a : AA} {k w n : Int32} {U : Nat → Int32} {N : Nat × Nat} (hF : 130 ≤ F) (h : RC c a (([], U), N)) (hw : ∀ p ∈ aWay a, wfL p.2.2) : cUp1 (([], U), N) (A_meddle a k w n) (k_Face_meddle F c 0 k w n) (k_Face_meddle_A F c 0 k w n) := by
  have hh := K_has (k := k) h
  unfold A_meddle
  by_cases q : aInR w 0 2 = true ∧ aInR n 0 1000 = true
  · obtain ⟨q1, q2⟩ := q
    have e0 : ¬ (!aInR w 0 2 || !aInR n 0 1000) = true := by rw [q1, q2]; decide
    rw [if_neg e0]
    have q1 := inR_t.mp q1
    have q2 := inR_t.mp q2
    rw [i_0, L_2] at q1
    rw [i_0, L_1000] at q2
    have no : ¬ (0 ≤ k ∧ k.toNatClampNeg < (aWay a).length) → WP (k_Face_meddle F c 0 k w n) (fun p => RC p.2 a (([], U), N) ∧ p.1 = 0) := by
      intro z
      unfold k_Face_meddle k_Face_meddle_b0
      rw [if_neg (fun w => by have w := g0_lt.mp w; omega), if_neg (fun w => by have w := g2_gt.mp w; rw [L_2] at w; omega), if_neg (fun w => by have w := g0_lt.mp w; omega), if_pos (g2_le.mpr (by rw [L_1000]; omega)), hh, decide_eq_false z]
      refine WP_b ?_
      rw [if_neg (show ¬ xc0 .ne (aB false) = true by decide), if_pos (Or.inl rfl)]
      exact WP_some ⟨h, rfl⟩
    by_cases q3 : k < 0
    · rw [if_pos q3]
      exact Or.inl ⟨rfl, no (fun z => Int32.not_lt.mpr z.1 q3)⟩
    rw [if_neg q3]
    cases hg : (aWay a)[k.toNatClampNeg]? with
    | none =>
      have hl2 := List.getElem?_eq_none_iff.mp hg
      exact Or.inl ⟨rfl, no (fun z => by have := z.2; omega)⟩
    | some p =>
      obtain ⟨hl2, hK⟩ := List.getElem?_eq_some_iff.mp hg
      have hmem : p ∈ aWay a := by rw [← hK]; exact List.getElem_mem hl2
      have k0 := Int32.not_lt.mp q3
      have y1 : WP (k_Face_meddle F c 0 k w n) (fun r => RC r.2 (if w = 0 then aAdd (aWayS a ((aWay a).eraseIdx k.toNatClampNeg)) 22 0 1 else if w = 1 then A_fly a p.2.2 (aNow a + aS a 23 (16 * (p.2.2.1 2) + p.2.2.1 3).toNatClampNeg) else aWayS (aAdd a 2 0 1) (aIns (p.1 + n, aS a 2 0, p.2.2) ((aWay a).eraseIdx k.toNatClampNeg))) (([], U), N) ∧ r.1 = 1) := by
        unfold k_Face_meddle k_Face_meddle_b0 k_Face_meddle_b81
        rw [if_neg (fun w => by have w := g0_lt.mp w; omega), if_neg (fun w => by have w := g2_gt.mp w; rw [L_2] at w; omega), if_neg (fun w => by have w := g0_lt.mp w; omega), if_pos (g2_le.mpr (by rw [L_1000]; omega)), hh, decide_eq_true ⟨k0, hl2⟩]
        refine WP_b ?_
        rw [if_pos (c0_ne.mpr (show ¬ aB true = 0 by decide))]
        by_cases w0 : w = 0
        · rw [if_neg (fun z => c0_ne.mp z w0), if_pos w0]
          refine WP_call (K_drop h k0 hg) (fun c' h' => ?_)
          rw [if_pos (Or.inr rfl)]
          exact WP_some ⟨h', rfl⟩
        · rw [if_pos (c0_ne.mpr w0), if_neg w0]
          by_cases w1 : w = 1
          · rw [if_neg (fun z => c2_ne.mp z w1), if_pos w1]
            refine WP_call (K_double hF h (by exact Nat.zero_le _) k0 hg (hw p hmem)) (fun c' h' => ?_)
            rw [if_pos (Or.inr rfl)]
            exact WP_some ⟨h', rfl⟩
          · rw [if_pos (c2_ne.mpr w1), if_neg w1]
            refine WP_call (K_defer hF h k0 hg) (fun c' h' => ?_)
            rw [if_pos (Or.inr rfl)]
            exact WP_some ⟨h', rfl⟩
      dsimp only
      by_cases w0 : w = 0
      · rw [if_pos w0] at y1 ⊢
        exact Or.inl ⟨rfl, y1⟩
      · rw [if_neg w0] at y1 ⊢
        by_cases w1 : w = 1
        · rw [if_pos w1] at y1 ⊢
          exact Or.inl ⟨rfl, y1⟩
        · rw [if_neg w1] at y1 ⊢
          exact Or.inl ⟨rfl, y1⟩
  · have e0 : (!aInR w 0 2 || !aInR n 0 1000) = true := by
      cases z1 : aInR w 0 2 with
      | false => rfl
      | true => cases z2 : aInR n 0 1000 with
        | false => rfl
        | true => exact absurd ⟨z1, z2⟩ q
    rw [if_pos e0]
    refine Or.inr ⟨rfl, ?_⟩
    rw [inR_t, inR_t, i_0, L_1000, L_2] at q
    unfold k_Face_meddle_A k_Face_meddle_A_b0 k_Face_meddle_A_b20
    by_cases p1 : w.toInt < 0
    · rw [if_pos (g0_lt.mpr p1)]
      exact WP_some h
    rw [if_neg (fun w => p1 (g0_lt.mp w))]
    by_cases p2 : 2 < w.toInt
    · rw [if_pos (g2_gt.mpr (by rw [L_2]; exact p2))]
      exact WP_some h
    rw [if_neg (fun w => p2 (by have w := g2_gt.mp w; rw [L_2] at w; exact w))]
    by_cases p3 : n.toInt < 0
    · rw [if_pos (g0_lt.mpr p3)]
      exact WP_some h
    rw [if_neg (fun w => p3 (g0_lt.mp w)), if_neg (fun w => by have w := g2_le.mp w; rw [L_1000] at w; omega)]
    exact WP_some h
theorem K_runA {F : Nat} {c : CS} {a : AA} {v : CV} {n : Int32} (h : RC c a v) (hn : aInR n 1 1000 = false) : (A_runFace a n).2.1 = 1 ∧ WP (k_Face_run_A F c 0 n) (fun c' => RC c' (A_runFace a n).1 v) := by
  unfold A_runFace
  rw [hn, if_pos (show (!false) = true by decide)]
  refine ⟨rfl, ?_⟩
  have q := inR_n.mp hn
  rw [L_1, L_1000] at q
  unfold k_Face_run_A k_Face_run_A_b0 k_Face_run_A_b12
  by_cases p1 : n.toInt < 1
  · rw [if_pos (g2_lt.mpr (by rw [L_1]; exact p1))]
    exact WP_some h
  · rw [if_neg (fun w => by have w := g2_lt.mp w; rw [L_1] at w; omega), if_neg (fun w => by have w := g2_le.mp w; rw [L_1000] at w; omega)]
    exact WP_some h
theorem K_giveUpN {c : CS} {a : AA} {v : CV} {x : Int32} (h : RC c a v) (h124 : ∀ k, k < 8 → aS a 124 k = 0 ∨ aS a 124 k = 1) (hj : ∀ k, k < 8 → ¬ aS a 124 k = 0 → ∃ j, aS a 137 k = Int32.ofNat j ∧ j < (aAk a).length) : cUpd a v (A_giveUp a x) (k_Face_giveUp c 0 x) (k_Face_asker_J c 0 x) none := by
  by_cases q : aInR x 0 7 = true
  · refine Or.inl ⟨?_, K_giveUpF h q h124 hj⟩
    unfold A_giveUp
    rw [q, if_neg (show ¬ (!true) = true by decide)]
    split
    · rfl
    · rfl
  · have q := b_false q
    refine Or.inr ?_
    unfold A_giveUp
    rw [q, if_pos (show (!false) = true by decide)]
    exact ⟨rfl, rfl, Or.inl (K_askerJ q)⟩
theorem K_answerN {c : CS} {a : AA} {v : CV} {x : Int32} (h : RC c a v) : cUpd a v (A_answer a x) (k_Face_answer c 0 x) (k_Face_asker_J c 0 x) none := by
  by_cases q : aInR x 0 7 = true
  · refine Or.inl ⟨?_, K_answerF h q⟩
    unfold A_answer
    rw [q]
    rfl
  · have q := b_false q
    refine Or.inr ?_
    unfold A_answer
    rw [q, if_pos (show (!false) = true by decide)]
    exact ⟨rfl, rfl, Or.inl (K_askerJ q)⟩
/-! an asking is added -/
theorem KRm_gr1 {c c' : CS} {v : CV} {cl i f k m L n : Nat} (hp : grP cl i f k m) (e0 : cL c cl i f = L) (e1 : cL c' cl i f = n) (ho : ∀ a b x, ¬ (a = cl ∧ b = i ∧ x = f) → Sm c c' a b x) (eT : cT c' = ((cT c).1 + 1, (cT c).2 + n)) (h1 : gw1 k * L ≤ gw1 k * n) (h2 : n + gw2 k * L ≤ gw2 k * n) (hm : n ≤ m) (h : KRm c v) : KRm c' (v.1, (v.2.1 + 1, v.2.2)) := by
  have h11 : cl ≠ 11 ∧ cl ≠ 14 := by rcases hp with z | z | z | z <;> omega
  have h137 : ¬ (cl = 13 ∧ f = 7) := by rcases hp with z | z | z | z <;> omega
  obtain ⟨r1, r2, r3, r4⟩ := h
  have n1 : nL c' v.1.1 = nL c v.1.1 := by
    unfold nL
    rw [(ho 14 0 15 (fun z => h11.2 z.1.symm)).2.2.2, (ho 14 0 16 (fun z => h11.2 z.1.symm)).2.2.2, sumN_eq (f := fun s => (cS c' 13 s 7).length) (g := fun s => (cS c 13 s 7).length) 7 (fun s _ => by rw [(ho 13 s 7 (fun z => h137 ⟨z.1.symm, z.2.2.symm⟩)).2.2.2])]
  have g1 := gA_gr (w := gw1) hp e0 e1 (fun a b x z => (ho a b x z).2.2.1)
  have g2 := gA_gr (w := gw2) hp e0 e1 (fun a b x z => (ho a b x z).2.2.1)
  obtain ⟨c1, c2, c3, c4, c5, c6⟩ := r4
  refine ⟨?_, ?_, by rw [n1]; exact r3, fun j hj => ?_, fun s hs => ⟨?_, ?_, ?_⟩, ?_, ?_, ?_, ?_⟩
  · rw [eT, n1]
    show 16 * ((cT c).1 + 1) ≤ 16 * (v.2.1 + 1) + 48 * nL c v.1.1 + gA gw1 c'
    omega
  · rw [eT, n1]
    show (cT c).2 + n ≤ v.2.2 + 256 * nL c v.1.1 + gA gw2 c'
    omega
  · rw [(ho 11 j 6 (fun z => h11.1 z.1.symm)).2.2.1, (ho 11 j 7 (fun z => h11.1 z.1.symm)).2.2.1, (ho 11 j 8 (fun z => h11.1 z.1.symm)).2.2.1]
    exact c1 j hj
  · by_cases q : 10 = cl ∧ s = i ∧ 14 = f
    · rw [q.1, q.2.1, q.2.2, e1]
      rcases hp with z | z | z | z <;> omega
    · rw [(ho 10 s 14 q).2.2.1]
      exact (c2 s hs).1
  · by_cases q : 13 = cl ∧ s = i ∧ 18 = f
    · rw [q.1, q.2.1, q.2.2, e1]
      rcases hp with z | z | z | z <;> omega
    · rw [(ho 13 s 18 q).2.2.1]
      exact (c2 s hs).2.1
  · rw [(ho 13 s 7 (fun z => h137 ⟨z.1.symm, z.2.2.symm⟩)).2.2.1]
    exact (c2 s hs).2.2
  · by_cases q : 4 = cl ∧ 0 = i ∧ 2 = f
    · rw [q.1, q.2.1, q.2.2, e1]
      rcases hp with z | z | z | z <;> omega
    · rw [(ho 4 0 2 q).2.2.1]
      exact c3
  · by_cases q : 4 = cl ∧ 0 = i ∧ 3 = f
    · rw [q.1, q.2.1, q.2.2, e1]
      rcases hp with z | z | z | z <;> omega
    · rw [(ho 4 0 3 q).2.2.1]
      exact c4
  · rw [(ho 14 0 15 (fun z => h11.2 z.1.symm)).2.2.1]
    exact c5
  · rw [(ho 14 0 16 (fun z => h11.2 z.1.symm)).2.2.1]
    exact c6
theorem RC_N {c : CS} {a : AA} {v : CV} {N : Nat × Nat} (h : RC c a v) (h1 : v.2.1 ≤ N.1) (h2 : v.2.2 ≤ N.2) : RC c a (v.1, N) := by
  have hF : Ck [] 0 c c := Ck_r
  obtain ⟨r1, r2, r3, r4⟩ := h.2.2.2.2.2.2.2.2.2.2.2.2.2.2.2.2.2.2.2.2.1
  have hrm : KRm c (v.1, N) := by
    refine ⟨?_, ?_, r3, r4⟩
    · show 16 * (cT c).1 ≤ 16 * N.1 + 48 * nL c v.1.1 + gA gw1 c
      omega
    · show (cT c).2 ≤ N.2 + 256 * nL c v.1.1 + gA gw2 c
      omega
  exact ⟨KSc_fr hF (by decide) h.1, fun s hs hu => KFr_fr hF (by decide) (h.2.1 s hs hu), fun s hs => KHd_fr hF (by decide) (h.2.2.1 s hs), fun s hs hr => KLd_fr hF (by decide) (h.2.2.2.1 s hs hr), fun s hs hu => KRq_fr hF (by decide) (h.2.2.2.2.1 s hs hu), KBl_fr hF (by decide) h.2.2.2.2.2.1, KDa_fr hF (by decide) h.2.2.2.2.2.2.1, fun s hs => KLw_fr hF (by decide) (h.2.2.2.2.2.2.2.1 s hs), fun s hs => KG_fr hF (by decide) (h.2.2.2.2.2.2.2.2.1 s hs), fun s hs => KPg_fr hF (by decide) (h.2.2.2.2.2.2.2.2.2.1 s hs), fun s hs => KCh_fr hF (by decide) (h.2.2.2.2.2.2.2.2.2.2.1 s hs), fun s hs => KMc_fr hF (by decide) (h.2.2.2.2.2.2.2.2.2.2.2.1 s hs), fun s hs => KPc_fr hF (by decide) (h.2.2.2.2.2.2.2.2.2.2.2.2.1 s hs), fun k hk => KCl_fr hF (by decide) (h.2.2.2.2.2.2.2.2.2.2.2.2.2.1 k hk), fun k hk => KDn_fr hF (by decide) (h.2.2.2.2.2.2.2.2.2.2.2.2.2.2.1 k hk), KAk_fr hF (by decide) h.2.2.2.2.2.2.2.2.2.2.2.2.2.2.2.1, KFc_fr hF (by decide) h.2.2.2.2.2.2.2.2.2.2.2.2.2.2.2.2.1, fun s hs => KId_fr hF (by decide) (h.2.2.2.2.2.2.2.2.2.2.2.2.2.2.2.2.2.1 s hs), fun k hk => KIc_fr hF (by decide) (h.2.2.2.2.2.2.2.2.2.2.2.2.2.2.2.2.2.2.1 k hk), KLt_fr hF rfl (by decide) h.2.2.2.2.2.2.2.2.2.2.2.2.2.2.2.2.2.2.2.1, hrm, h.2.2.2.2.2.2.2.2.2.2.2.2.2.2.2.2.2.2.2.2.2.1, h.2.2.2.2.2.2.2.2.2.2.2.2.2.2.2.2.2.2.2.2.2.2⟩
theorem KLt_up {D : List Nat} {o : Nat} {c c' : CS} {a : AA} {H : List (Nat × Option AL)} (h : Ck D o c c') (hT : (cT c).1 ≤ (cT c').1) (q : dj [463, 464, 423, 256, 257, 258, 259, 260, 261, 262, 263, 264, 265, 266, 267, 268, 269, 270, 271, 272, 273, 274, 275] D = true) (y0 : KLt c a H) : KLt c' a H := by
  have e15 : Sm c c' 14 0 15 := h 14 0 15 (by decide) (Or.inl (dj_m q (x := 463) (by decide)))
  have e16 : Sm c c' 14 0 16 := h 14 0 16 (by decide) (Or.inl (dj_m q (x := 464) (by decide)))
  have e7 : ∀ s, Sm c c' 13 s 7 := fun s => h 13 s 7 (by decide) (Or.inl (dj_m q (x := 423) (by decide)))
  have m8 : ∀ f, f < 20 → 32 * 8 + f ∈ [463, 464, 423, 256, 257, 258, 259, 260, 261, 262, 263, 264, 265, 266, 267, 268, 269, 270, 271, 272, 273, 274, 275] := by decide
  exact KLt_s e15.2.2.2 e16.2.2.2 (fun s _ => (e7 s).2.2.2) hT (fun ad f _ _ hf => h 8 ad f (by omega) (Or.inl (dj_m q (m8 f hf)))) y0
/-- one of the two arrays of askings grows -/
theorem RC_grow {c : CS} {a : AA} {v : CV} {f n : Nat} (h : RC c a v) (hf : f = 2 ∧ n ≤ 21000 ∨ f = 3 ∧ n ≤ 500000) (hn : 2 * cL c 4 0 f ≤ n) : RC (csG c 4 0 f n (fun y => if y < cL c 4 0 f then cI c 4 0 f y else 0)) a (v.1, (v.2.1 + 1, v.2.2)) := by
  obtain ⟨k1, k2, k3, k4, k5, k6, k7⟩ := h.2.2.2.2.2.2.2.2.2.2.2.2.2.2.2.1
  have hF : Ck [130, 131] 0 c (csG c 4 0 f n (fun y => if y < cL c 4 0 f then cI c 4 0 f y else 0)) := by
    rcases hf with ⟨rfl, _⟩ | ⟨rfl, _⟩
    · exact Ck_w (Ck_G (cl := 4) (f := 2) (Or.inl rfl)) (by decide)
    · exact Ck_w (Ck_G (cl := 4) (f := 3) (Or.inl rfl)) (by decide)
  have ho : ∀ b x y, ¬ (b = 4 ∧ x = 0 ∧ y = f) → Sm c (csG c 4 0 f n (fun y => if y < cL c 4 0 f then cI c 4 0 f y else 0)) b x y := fun b x y q => csG_o q
  have eI : ∀ g y, y < cL c 4 0 g → cI (csG c 4 0 f n (fun y => if y < cL c 4 0 f then cI c 4 0 f y else 0)) 4 0 g y = cI c 4 0 g y := by
    intro g y hy
    by_cases q : g = f
    · subst q
      rw [csG_I, if_pos hy]
    · exact (ho 4 0 g (fun z => q z.2.2)).1 y
  have eL : ∀ g, cL c 4 0 g ≤ cL (csG c 4 0 f n (fun y => if y < cL c 4 0 f then cI c 4 0 f y else 0)) 4 0 g := by
    intro g
    by_cases q : g = f
    · subst q
      rw [csG_L]
      omega
    · rw [(ho 4 0 g (fun z => q z.2.2)).2.2.1]
      exact Nat.le_refl _
  have hrm : KRm (csG c 4 0 f n (fun y => if y < cL c 4 0 f then cI c 4 0 f y else 0)) (v.1, (v.2.1 + 1, v.2.2)) := by
    rcases hf with ⟨rfl, hm⟩ | ⟨rfl, hm⟩
    · exact KRm_gr1 (cl := 4) (i := 0) (f := 2) (k := 4) (m := 21000) (n := n) (Or.inr (Or.inr (Or.inl ⟨rfl, rfl, rfl, rfl, rfl⟩))) rfl csG_L ho rfl (show 1 * cL c 4 0 2 ≤ 1 * n by omega) (show n + 2 * cL c 4 0 2 ≤ 2 * n by omega) hm h.2.2.2.2.2.2.2.2.2.2.2.2.2.2.2.2.2.2.2.2.1
    · exact KRm_gr1 (cl := 4) (i := 0) (f := 3) (k := 4) (m := 500000) (n := n) (Or.inr (Or.inr (Or.inr ⟨rfl, rfl, rfl, rfl, rfl⟩))) rfl csG_L ho rfl (show 1 * cL c 4 0 3 ≤ 1 * n by omega) (show n + 2 * cL c 4 0 3 ≤ 2 * n by omega) hm h.2.2.2.2.2.2.2.2.2.2.2.2.2.2.2.2.2.2.2.2.1
  have hT : (cT c).1 ≤ (cT (csG c 4 0 f n (fun y => if y < cL c 4 0 f then cI c 4 0 f y else 0))).1 := by
    show (cT c).1 ≤ (cT c).1 + 1
    omega
  have f01 : ¬ (0 : Nat) = f ∧ ¬ (4 : Nat) = f := by omega
  have e0 := (ho 4 0 0 (fun z => f01.1 z.2.2)).1 0
  have e4 := (ho 4 0 4 (fun z => f01.2 z.2.2)).1 0
  generalize csG c 4 0 f n (fun y => if y < cL c 4 0 f then cI c 4 0 f y else 0) = c' at hF ho eI eL hrm hT e0 e4
  have hak : KAk c' (aAk a) := by
    refine ⟨e0.trans k1, k2, e4.trans k3, Nat.le_trans k4 (eL 2), Nat.le_trans k5 (eL 3), k6, fun j hj => ?_⟩
    obtain ⟨m1, m2, m3, m4, m5, m6⟩ := k7 j hj
    have hr : ∀ i, i < 10 → cI c' 4 0 2 (10 * j + i) = cI c 4 0 2 (10 * j + i) := fun i hi => eI 2 _ (by omega)
    have ho := kOff_le hj
    refine ⟨fun i hi => (hr i (by omega)).trans (m1 i hi), (hr 6 (by omega)).trans m2, (hr 7 (by omega)).trans m3, (hr 8 (by omega)).trans m4, (hr 9 (by omega)).trans m5, fun i hi => (eI 3 _ (by omega)).trans (m6 i hi)⟩
  exact ⟨KSc_fr hF (by decide) h.1, fun s hs hu => KFr_fr hF (by decide) (h.2.1 s hs hu), fun s hs => KHd_fr hF (by decide) (h.2.2.1 s hs), fun s hs hr => KLd_fr hF (by decide) (h.2.2.2.1 s hs hr), fun s hs hu => KRq_fr hF (by decide) (h.2.2.2.2.1 s hs hu), KBl_fr hF (by decide) h.2.2.2.2.2.1, KDa_fr hF (by decide) h.2.2.2.2.2.2.1, fun s hs => KLw_fr hF (by decide) (h.2.2.2.2.2.2.2.1 s hs), fun s hs => KG_fr hF (by decide) (h.2.2.2.2.2.2.2.2.1 s hs), fun s hs => KPg_fr hF (by decide) (h.2.2.2.2.2.2.2.2.2.1 s hs), fun s hs => KCh_fr hF (by decide) (h.2.2.2.2.2.2.2.2.2.2.1 s hs), fun s hs => KMc_fr hF (by decide) (h.2.2.2.2.2.2.2.2.2.2.2.1 s hs), fun s hs => KPc_fr hF (by decide) (h.2.2.2.2.2.2.2.2.2.2.2.2.1 s hs), fun k hk => KCl_fr hF (by decide) (h.2.2.2.2.2.2.2.2.2.2.2.2.2.1 k hk), fun k hk => KDn_fr hF (by decide) (h.2.2.2.2.2.2.2.2.2.2.2.2.2.2.1 k hk), hak, KFc_fr hF (by decide) h.2.2.2.2.2.2.2.2.2.2.2.2.2.2.2.2.1, fun s hs => KId_fr hF (by decide) (h.2.2.2.2.2.2.2.2.2.2.2.2.2.2.2.2.2.1 s hs), fun k hk => KIc_fr hF (by decide) (h.2.2.2.2.2.2.2.2.2.2.2.2.2.2.2.2.2.2.1 k hk), KLt_up hF hT (by decide) h.2.2.2.2.2.2.2.2.2.2.2.2.2.2.2.2.2.2.2.1, hrm, h.2.2.2.2.2.2.2.2.2.2.2.2.2.2.2.2.2.2.2.2.2.1, h.2.2.2.2.2.2.2.2.2.2.2.2.2.2.2.2.2.2.2.2.2.2⟩
def csW (c : CS) (m : Nat) (g : Nat → Int32) : Nat → CS
  | 0 => c
  | n + 1 => csI (csW c m g n) 4 0 2 (10 * m + n) (g n)
theorem csW_P {c : CS} {m : Nat} {g : Nat → Int32} : ∀ n, PX 4 0 [2] c (csW c m g n)
  | 0 => PX_r
  | n + 1 => PX_t (csW_P n) (PX_I (by decide))
theorem csW_v {c : CS} {m : Nat} {g : Nat → Int32} : ∀ n y, cI (csW c m g n) 4 0 2 y = if 10 * m ≤ y ∧ y < 10 * m + n then g (y - 10 * m) else cI c 4 0 2 y := by
  intro n
  induction n with
  | zero =>
    intro y
    rw [if_neg (by omega)]
    rfl
  | succ n ih =>
    intro y
    by_cases q : y = 10 * m + n
    · subst q
      rw [if_pos (by omega), show 10 * m + n - 10 * m = n by omega]
      exact csI_e
    · rw [show cI (csW c m g (n + 1)) 4 0 2 y = cI (csW c m g n) 4 0 2 y from csI_j q, ih y]
      by_cases q2 : 10 * m ≤ y ∧ y < 10 * m + n
      · rw [if_pos q2, if_pos (by omega)]
      · rw [if_neg q2, if_neg (by omega)]
theorem csW_s {c : CS} {m n : Nat} {g : Nat → Int32} {j x : Int32} (hj : j = Int32.ofNat (10 * m + n)) (hL : 10 * m + 10 ≤ cL c 4 0 2) (hn : n < 10) (hm : m ≤ 1024) (hx : x = g n) : cwr (csW c m g n) 4 0 2 j x = some (csW c m g (n + 1)) := by
  rw [hx, cwr_n hj (by show 10 * m + n < cL (csW c m g n) 4 0 2; rw [PX_cL (csW_P n)]; omega) (by omega)]
  rfl
theorem kOff_app {K : List AK} {q : AK} {j : Nat} (hj : j ≤ K.length) : kOff (K ++ [q]) j = kOff K j := by
  unfold kOff
  rw [List.take_append_of_le_length hj]
theorem kOff_all {K : List AK} {q : AK} : kOff (K ++ [q]) (K ++ [q]).length = kOff K K.length + q.2.length := by
  unfold kOff
  rw [List.take_length, List.take_length, List.map_append, List.sum_append]
  simp
theorem getD_k {K : List AK} {q : AK} {j : Nat} (hj : j < K.length) : (K ++ [q]).getD j (fun _ => 0, []) = K.getD j (fun _ => 0, []) := by
  rw [List.getD_eq_getElem?_getD, List.getD_eq_getElem?_getD, List.getElem?_append_left hj]
theorem getD_kl {K : List AK} {q : AK} : (K ++ [q]).getD K.length (fun _ => 0, []) = q := by
  rw [List.getD_eq_getElem?_getD, List.getElem?_append_right (Nat.le_refl _), Nat.sub_self]
  rfl
theorem RC_ak {c c' : CS} {a : AA} {v v' : CV} {K : List AK} (h : RC c a v) (hF : Ck [128, 130, 131, 132] 0 c c') (hT : (cT c).1 ≤ (cT c').1) (hv : v'.1 = v.1) (hr : KRm c' v') (hk : KAk c' K) : RC c' (aAkS a K) v' := by
  obtain ⟨v1, v2⟩ := v'
  have hv : v1 = v.1 := hv
  subst hv
  exact ⟨KSc_fr hF (by decide) h.1, fun s hs hu => KFr_fr hF (by decide) (h.2.1 s hs hu), fun s hs => KHd_fr hF (by decide) (h.2.2.1 s hs), fun s hs hr => KLd_fr hF (by decide) (h.2.2.2.1 s hs hr), fun s hs hu => KRq_fr hF (by decide) (h.2.2.2.2.1 s hs hu), KBl_fr hF (by decide) h.2.2.2.2.2.1, KDa_fr hF (by decide) h.2.2.2.2.2.2.1, fun s hs => KLw_fr hF (by decide) (h.2.2.2.2.2.2.2.1 s hs), fun s hs => KG_fr hF (by decide) (h.2.2.2.2.2.2.2.2.1 s hs), fun s hs => KPg_fr hF (by decide) (h.2.2.2.2.2.2.2.2.2.1 s hs), fun s hs => KCh_fr hF (by decide) (h.2.2.2.2.2.2.2.2.2.2.1 s hs), fun s hs => KMc_fr hF (by decide) (h.2.2.2.2.2.2.2.2.2.2.2.1 s hs), fun s hs => KPc_fr hF (by decide) (h.2.2.2.2.2.2.2.2.2.2.2.2.1 s hs), fun k hk => KCl_fr hF (by decide) (h.2.2.2.2.2.2.2.2.2.2.2.2.2.1 k hk), fun k hk => KDn_fr hF (by decide) (h.2.2.2.2.2.2.2.2.2.2.2.2.2.2.1 k hk), hk, KFc_fr hF (by decide) h.2.2.2.2.2.2.2.2.2.2.2.2.2.2.2.2.1, fun s hs => KId_fr hF (by decide) (h.2.2.2.2.2.2.2.2.2.2.2.2.2.2.2.2.2.1 s hs), fun k hk => KIc_fr hF (by decide) (h.2.2.2.2.2.2.2.2.2.2.2.2.2.2.2.2.2.2.1 k hk), KLt_up hF hT (by decide) h.2.2.2.2.2.2.2.2.2.2.2.2.2.2.2.2.2.2.2.1, hr, h.2.2.2.2.2.2.2.2.2.2.2.2.2.2.2.2.2.2.2.2.2.1, h.2.2.2.2.2.2.2.2.2.2.2.2.2.2.2.2.2.2.2.2.2.2⟩
theorem K_addA {c : CS} {a : AA} {v : CV} {x kd k w : Int32} (h : RC c a v) (hl : (aAk a).length < 1024) : WP (k_Askings_add c 0 x kd k w) (fun p => p.1 = Int32.ofNat (aAk a).length ∧ RC p.2 (aAdd (aAkS a (aAk a ++ [((fun j => if j = 0 then x else if j = 1 then kd else if j = 2 then aS a 141 0 else if j = 3 then -1 else if j = 5 then -1 else if j = 7 then k else if j = 8 then w else 0), [])])) 141 0 1) (v.1, (v.2.1 + 1, v.2.2)) ∧ ∀ j, cI p.2 15 0 4 j = cI c 15 0 4 j) := by
  obtain ⟨k1, k2, k3, k4, k5, k6, k7⟩ := h.2.2.2.2.2.2.2.2.2.2.2.2.2.2.2.1
  have e10 : cI c 4 0 0 0 * 10 = Int32.ofNat (10 * (aAk a).length) := by
    rw [k1, show (10 : Int32) = Int32.ofNat 10 from rfl, ← Int32.ofNat_mul, Nat.mul_comm]
  have e20 : Int32.ofNat (10 * (aAk a).length) + 10 = Int32.ofNat (10 * (aAk a).length + 10) := (Int32.ofNat_add _ 10).symm
  have hcap := (h.2.2.2.2.2.2.2.2.2.2.2.2.2.2.2.2.2.2.2.2.1).2.2.2.2.2.1
  have go : ∀ c1 : CS, RC c1 a (v.1, (v.2.1 + 1, v.2.2)) → 10 * (aAk a).length + 10 ≤ cL c1 4 0 2 → (∀ j, cI c1 15 0 4 j = cI c 15 0 4 j) → WP (k_Askings_add_b40 c1 0 x kd k w (Int32.ofNat (10 * (aAk a).length))) (fun p => p.1 = Int32.ofNat (aAk a).length ∧ RC p.2 (aAdd (aAkS a (aAk a ++ [((fun j => if j = 0 then x else if j = 1 then kd else if j = 2 then aS a 141 0 else if j = 3 then -1 else if j = 5 then -1 else if j = 7 then k else if j = 8 then w else 0), [])])) 141 0 1) (v.1, (v.2.1 + 1, v.2.2)) ∧ ∀ j, cI p.2 15 0 4 j = cI c 15 0 4 j) := by
    intro c1 h1 hL h15
    obtain ⟨l1, l2, l3, l4, l5, l6, l7⟩ := h1.2.2.2.2.2.2.2.2.2.2.2.2.2.2.2.1
    have e141 : cI c1 4 0 1 0 = aS a 141 0 := K_r h1 (F := 141) (cl := 4) (f := 1) (by decide) (by decide)
    have gd : ∃ g : Nat → Int32, g = fun i => if i = 0 then x else if i = 1 then kd else if i = 2 then aS a 141 0 else if i = 3 then -1 else if i = 4 then 0 else if i = 5 then -1 else if i = 6 then Int32.ofNat (kOff (aAk a) (aAk a).length) else if i = 7 then k else if i = 8 then w else 0 := ⟨_, rfl⟩
    obtain ⟨g, hg⟩ := gd
    have ix : ∀ n : Nat, Int32.ofNat (10 * (aAk a).length) + Int32.ofNat n = Int32.ofNat (10 * (aAk a).length + n) := fun n => (Int32.ofNat_add _ n).symm
    unfold k_Askings_add_b40
    refine WP_eq (csW_s (c := c1) (m := (aAk a).length) (n := 0) (g := g) (j := Int32.ofNat (10 * (aAk a).length)) rfl hL (by omega) (by omega) (by rw [hg]; rfl)) ?_
    refine WP_eq (csW_s (n := 1) (ix 1) hL (by omega) (by omega) (by rw [hg]; rfl)) ?_
    refine WP_eq (csW_s (n := 2) (ix 2) hL (by omega) (by omega) (by rw [PX_o (csW_P 2) (by decide), e141, hg]; rfl)) ?_
    refine WP_eq (csW_s (n := 3) (ix 3) hL (by omega) (by omega) (by rw [hg]; rfl)) ?_
    refine WP_eq (csW_s (n := 4) (ix 4) hL (by omega) (by omega) (by rw [hg]; rfl)) ?_
    refine WP_eq (csW_s (n := 5) (ix 5) hL (by omega) (by omega) (by rw [hg]; rfl)) ?_
    refine WP_eq (csW_s (n := 6) (ix 6) hL (by omega) (by omega) (by rw [PX_o (csW_P 6) (by decide), l3, hg]; rfl)) ?_
    refine WP_eq (csW_s (n := 7) (ix 7) hL (by omega) (by omega) (by rw [hg]; rfl)) ?_
    refine WP_eq (csW_s (n := 8) (ix 8) hL (by omega) (by omega) (by rw [hg]; rfl)) ?_
    refine WP_eq (csW_s (n := 9) (ix 9) hL (by omega) (by omega) (by rw [hg]; rfl)) ?_
    have P := csW_P (c := c1) (m := (aAk a).length) (g := g) 10
    have V := csW_v (c := c1) (m := (aAk a).length) (g := g) 10
    generalize csW c1 (aAk a).length g 10 = c2 at P V
    refine WP_b (WP_b ?_)
    have P1 : PX 4 0 [0, 1, 2] c1 (csI c2 4 0 1 0 (cI c2 4 0 1 0 + 1)) := PX_t (PX_w P (by decide)) (PX_I (by decide))
    have f0 : cI (csI c2 4 0 1 0 (cI c2 4 0 1 0 + 1)) 4 0 0 0 = Int32.ofNat (aAk a).length := (PX_o (PX_I (fs := [1]) (by decide)) (by decide)).trans ((PX_o P (by decide)).trans l1)
    have f1 : cI (csI c2 4 0 1 0 (cI c2 4 0 1 0 + 1)) 4 0 1 0 = aS a 141 0 + 1 := by
      rw [csI_e, PX_o P (by decide), e141]
    have f2 : ∀ y, cI (csI c2 4 0 1 0 (cI c2 4 0 1 0 + 1)) 4 0 2 y = if 10 * (aAk a).length ≤ y ∧ y < 10 * (aAk a).length + 10 then g (y - 10 * (aAk a).length) else cI c1 4 0 2 y := fun y => (csI_f (by decide)).trans (V y)
    generalize csI c2 4 0 1 0 (cI c2 4 0 1 0 + 1) = c3 at P1 f0 f1 f2
    rw [f0, i_s]
    have P2 : PX 4 0 [0, 1, 2] c1 (csI c3 4 0 0 0 (Int32.ofNat ((aAk a).length + 1))) := PX_t P1 (PX_I (by decide))
    have d0 : cI (csI c3 4 0 0 0 (Int32.ofNat ((aAk a).length + 1))) 4 0 0 0 = Int32.ofNat ((aAk a).length + 1) := csI_e
    have d1 : cI (csI c3 4 0 0 0 (Int32.ofNat ((aAk a).length + 1))) 4 0 1 0 = aS a 141 0 + 1 := (csI_f (by decide)).trans f1
    have d2 : ∀ y, cI (csI c3 4 0 0 0 (Int32.ofNat ((aAk a).length + 1))) 4 0 2 y = if 10 * (aAk a).length ≤ y ∧ y < 10 * (aAk a).length + 10 then g (y - 10 * (aAk a).length) else cI c1 4 0 2 y := fun y => (csI_f (by decide)).trans (f2 y)
    generalize csI c3 4 0 0 0 (Int32.ofNat ((aAk a).length + 1)) = c4 at P2 d0 d1 d2
    refine WP_some ⟨?_, ?_, fun j => (PX_c P2 (by decide)).trans (h15 j)⟩
    · show cI c4 4 0 0 0 - 1 = _
      rw [d0, ← i_s, Int32.add_sub_cancel]
    · have hF : Ck [128, 129, 130] 0 c1 c4 := PX_k P2 (Or.inl rfl) (by decide)
      have hT := P2.2.1
      have hak : KAk c4 (aAk a ++ [((fun j => if j = 0 then x else if j = 1 then kd else if j = 2 then aS a 141 0 else if j = 3 then -1 else if j = 5 then -1 else if j = 7 then k else if j = 8 then w else 0), [])]) := by
        refine ⟨by rw [List.length_append]; exact d0, by rw [List.length_append]; show (aAk a).length + 1 ≤ 1024; omega, ?_, ?_, ?_, ?_, ?_⟩
        · rw [kOff_all, PX_o P2 (by decide), l3]
          rfl
        · rw [List.length_append, PX_cL P2]
          show 10 * ((aAk a).length + 1) ≤ _
          omega
        · rw [kOff_all, PX_cL P2]
          exact l5
        · intro q hq
          rcases List.mem_append.mp hq with z | z
          · exact l6 q z
          · rw [List.mem_singleton] at z
            rw [z]
            exact Nat.zero_le _
        · intro j hj
          rw [List.length_append] at hj
          have hj : j < (aAk a).length + 1 := hj
          by_cases q : j = (aAk a).length
          · subst q
            rw [getD_kl, kOff_app (Nat.le_refl _)]
            have R : ∀ i, i < 10 → cI c4 4 0 2 (10 * (aAk a).length + i) = g i := fun i hi => by
              rw [d2, if_pos (by omega), show 10 * (aAk a).length + i - 10 * (aAk a).length = i by omega]
            refine ⟨fun i hi => ?_, ?_, ?_, ?_, ?_, fun i hi => absurd hi (Nat.not_lt_zero _)⟩
            · rw [R i (by omega), hg]
              match i, hi with
              | 0, _ => rfl
              | 1, _ => rfl
              | 2, _ => rfl
              | 3, _ => rfl
              | 4, _ => rfl
              | 5, _ => rfl
            · rw [R 6 (by omega), hg]
              rfl
            · rw [R 7 (by omega), hg]
              rfl
            · rw [R 8 (by omega), hg]
              rfl
            · rw [R 9 (by omega), hg]
              rfl
          · have hj : j < (aAk a).length := by omega
            rw [getD_k hj, kOff_app (Nat.le_of_lt hj)]
            obtain ⟨m1, m2, m3, m4, m5, m6⟩ := l7 j hj
            have R : ∀ i, i < 10 → cI c4 4 0 2 (10 * j + i) = cI c1 4 0 2 (10 * j + i) := fun i hi => by
              rw [d2, if_neg (by omega)]
            exact ⟨fun i hi => (R i (by omega)).trans (m1 i hi), (R 6 (by omega)).trans m2, (R 7 (by omega)).trans m3, (R 8 (by omega)).trans m4, (R 9 (by omega)).trans m5, fun i hi => (PX_o P2 (by decide)).trans (m6 i hi)⟩
      have hsc : KSc c4 (aAdd (aAkS a (aAk a ++ [((fun j => if j = 0 then x else if j = 1 then kd else if j = 2 then aS a 141 0 else if j = 3 then -1 else if j = 5 then -1 else if j = 7 then k else if j = 8 then w else 0), [])])) 141 0 1) := by
        intro y hy i hi
        by_cases q : y.1 = 141
        · obtain ⟨q1, q2⟩ := (sT_u y hy (141, 4, 1) (by decide)).mp q
          have q1 : y.2.1 = 4 := q1
          have q2 : y.2.2 = 1 := q2
          rw [q1] at hi
          have hi : i < 1 := hi
          have i0 : i = 0 := by omega
          rw [q, q1, q2, i0]
          refine d1.trans (Eq.symm ?_)
          show (if 141 = 141 ∧ 0 = 0 then aS a 141 0 + 1 else aS a 141 0) = aS a 141 0 + 1
          exact if_pos ⟨rfl, rfl⟩
        · rw [show aS (aAdd (aAkS a (aAk a ++ [((fun j => if j = 0 then x else if j = 1 then kd else if j = 2 then aS a 141 0 else if j = 3 then -1 else if j = 5 then -1 else if j = 7 then k else if j = 8 then w else 0), [])])) 141 0 1) y.1 i = aS a y.1 i from aS_If q, (P2.1 y.2.1 i y.2.2 (fun z => by
            have : ∀ t ∈ sT, t.2.1 = 4 → t.2.2 ∈ [0, 1, 2] → t.1 = 141 := by decide
            exact q (this y hy z.1 z.2.2))).1]
          exact h1.1 y hy i hi
      have e := eI1 (a := aAkS a (aAk a ++ [((fun j => if j = 0 then x else if j = 1 then kd else if j = 2 then aS a 141 0 else if j = 3 then -1 else if j = 5 then -1 else if j = 7 then k else if j = 8 then w else 0), [])])) (f := 141) (i := 0) (x := aS a 141 0 + 1)
      have h2 := h1
      exact ⟨hsc, fr_k hF (by decide) e (by decide) h2.2.1, hd_k hF (by decide) e (by decide) h2.2.2.1, ld_k hF (by decide) e (by decide) h2.2.2.2.1, rq_k hF (by decide) e (by decide) rfl h2.2.2.2.2.1, bl_k hF (by decide) e (by decide) h2.2.2.2.2.2.1, da_k hF (by decide) e (by decide) rfl h2.2.2.2.2.2.2.1, lw_k hF (by decide) e (by decide) h2.2.2.2.2.2.2.2.1, fun s hs => KG_fr hF (by decide) (h2.2.2.2.2.2.2.2.2.1 s hs), fun s hs => KPg_fr hF (by decide) (h2.2.2.2.2.2.2.2.2.2.1 s hs), fun s hs => KCh_fr hF (by decide) (h2.2.2.2.2.2.2.2.2.2.2.1 s hs), fun s hs => KMc_fr hF (by decide) (h2.2.2.2.2.2.2.2.2.2.2.2.1 s hs), pc_k hF (by decide) e (by decide) rfl h2.2.2.2.2.2.2.2.2.2.2.2.2.1, cl_k hF (by decide) e (by decide) h2.2.2.2.2.2.2.2.2.2.2.2.2.2.1, fun k hk => KDn_fr hF (by decide) (h2.2.2.2.2.2.2.2.2.2.2.2.2.2.2.1 k hk), hak, KFc_fr hF (by decide) h2.2.2.2.2.2.2.2.2.2.2.2.2.2.2.2.2.1, id_k hF (by decide) e (by decide) h2.2.2.2.2.2.2.2.2.2.2.2.2.2.2.2.2.2.1, fun k hk => KIc_fr hF (by decide) (h2.2.2.2.2.2.2.2.2.2.2.2.2.2.2.2.2.2.2.1 k hk), KLt_fr hF hT (by decide) h2.2.2.2.2.2.2.2.2.2.2.2.2.2.2.2.2.2.2.2.1, KRm_eq P2.2.2.1 P2.2.2.2 P2.2.1 h2.2.2.2.2.2.2.2.2.2.2.2.2.2.2.2.2.2.2.2.2.1, sh_k e (by decide) rfl rfl h2.2.2.2.2.2.2.2.2.2.2.2.2.2.2.2.2.2.2.2.2.2.1, nw_k e (by decide) h2.2.2.2.2.2.2.2.2.2.2.2.2.2.2.2.2.2.2.2.2.2.2⟩
  unfold k_Askings_add k_Askings_add_b0
  rw [e10, e20]
  by_cases q : 10 * (aAk a).length + 10 ≤ cL c 4 0 2
  · rw [if_pos (i_gei (show cal c 4 0 2 < 2147483648 by show cL c 4 0 2 < _; omega) (by omega) |>.mpr q)]
    exact go c (RC_N h (Nat.le_succ _) (Nat.le_refl _)) q (fun _ => rfl)
  · rw [if_neg (fun z => q ((i_gei (show cal c 4 0 2 < 2147483648 by show cL c 4 0 2 < _; omega) (by omega)).mp z))]
    have en : (2 : Int32) * Int32.ofNat (10 * (aAk a).length + 10) = Int32.ofNat (2 * (10 * (aAk a).length + 10)) := (Int32.ofNat_mul 2 _).symm
    rw [en, cext_n rfl (by omega) (by omega)]
    refine WP_b (go _ (RC_grow h (Or.inl ⟨rfl, by omega⟩) (by omega)) ?_ (fun j => ?_))
    · rw [csG_L]
      omega
    · exact (csG_o (fun z => absurd z.1 (by decide))).1 j
theorem K_addB {c : CS} {a : AA} {v : CV} {K : List AK} {q : Nat → Int32} {bs : List Int32} (h : RC c a v) (hK : aAk a = K ++ [(q, [])]) (hb : ∀ i, i < bs.length → cI c 15 0 4 i = bs.getD i 0) (hl : bs.length ≤ 232) : WP (k_Askings_addBytes_15_4 c 0 (Int32.ofNat K.length) 0 (Int32.ofNat bs.length)) (fun c' => RC c' (aAkS a (K ++ [(q, bs)])) (v.1, (v.2.1 + 1, v.2.2))) := by
  have hcap := (h.2.2.2.2.2.2.2.2.2.2.2.2.2.2.2.2.2.2.2.2.1).2.2.2.2.2.2.1
  have kb : kOff K K.length + 232 ≤ 250000 := by
    obtain ⟨_, k2, _, _, _, k6, _⟩ := h.2.2.2.2.2.2.2.2.2.2.2.2.2.2.2.1
    rw [hK] at k2 k6
    rw [List.length_append] at k2
    have k2 : K.length + 1 ≤ 1024 := k2
    have : ∀ L : List AK, (∀ k ∈ L, k.2.length ≤ 232) → (L.map (fun k => k.2.length)).sum ≤ 232 * L.length := by
      intro L
      induction L with
      | nil => exact fun _ => Nat.le_refl _
      | cons y r ih =>
        intro hh
        rw [List.map_cons, List.sum_cons, List.length_cons]
        have := ih (fun k hk => hh k (List.mem_cons_of_mem _ hk))
        have := hh y List.mem_cons_self
        omega
    have := this K (fun k hk => k6 k (List.mem_append_left _ hk))
    unfold kOff
    rw [List.take_length]
    omega
  have go : ∀ c1 : CS, RC c1 a (v.1, (v.2.1 + 1, v.2.2)) → kOff K K.length + bs.length ≤ cL c1 4 0 3 → (∀ i, i < bs.length → cI c1 15 0 4 i = bs.getD i 0) → WP (k_Askings_addBytes_15_4_b33 c1 0 (Int32.ofNat K.length) 0 (Int32.ofNat bs.length)) (fun c' => RC c' (aAkS a (K ++ [(q, bs)])) (v.1, (v.2.1 + 1, v.2.2))) := by
    intro c1 h1 hL h15
    obtain ⟨l1, l2, l3, l4, l5, l6, l7⟩ := h1.2.2.2.2.2.2.2.2.2.2.2.2.2.2.2.1
    rw [hK] at l1 l2 l3 l4 l5 l6 l7
    rw [kOff_all] at l3 l5
    rw [List.length_append] at l1 l2 l4
    have l1 : cI c1 4 0 0 0 = Int32.ofNat (K.length + 1) := l1
    have l2 : K.length + 1 ≤ 1024 := l2
    have l3 : cI c1 4 0 4 0 = Int32.ofNat (kOff K K.length) := l3
    have l4 : 10 * (K.length + 1) ≤ cL c1 4 0 2 := l4
    unfold k_Askings_addBytes_15_4_b33
    rw [l3]
    refine WP_eq (ccpy_n (s := 0) (t := kOff K K.length) (n := bs.length) rfl rfl rfl (show 0 + bs.length ≤ 400 by omega) (show kOff K K.length + bs.length ≤ cL c1 4 0 3 from hL) (by omega) (by omega)) (WP_b ?_)
    have P0 : PX 4 0 [2, 3, 4] c1 (csA c1 4 0 3 (fun w => if kOff K K.length ≤ w ∧ w < kOff K K.length + bs.length then cI c1 15 0 4 (0 + (w - kOff K K.length)) else cI c1 4 0 3 w)) := PX_A (by decide)
    have v3 : ∀ w, cI (csA c1 4 0 3 (fun w => if kOff K K.length ≤ w ∧ w < kOff K K.length + bs.length then cI c1 15 0 4 (0 + (w - kOff K K.length)) else cI c1 4 0 3 w)) 4 0 3 w = if kOff K K.length ≤ w ∧ w < kOff K K.length + bs.length then cI c1 15 0 4 (0 + (w - kOff K K.length)) else cI c1 4 0 3 w := fun w => cI_A
    have v4 : cI (csA c1 4 0 3 (fun w => if kOff K K.length ≤ w ∧ w < kOff K K.length + bs.length then cI c1 15 0 4 (0 + (w - kOff K K.length)) else cI c1 4 0 3 w)) 4 0 4 0 = Int32.ofNat (kOff K K.length) := (cI_Ao (by decide)).trans l3
    have v2 : ∀ w, cI (csA c1 4 0 3 (fun w => if kOff K K.length ≤ w ∧ w < kOff K K.length + bs.length then cI c1 15 0 4 (0 + (w - kOff K K.length)) else cI c1 4 0 3 w)) 4 0 2 w = cI c1 4 0 2 w := fun w => cI_Ao (by decide)
    generalize csA c1 4 0 3 (fun w => if kOff K K.length ≤ w ∧ w < kOff K K.length + bs.length then cI c1 15 0 4 (0 + (w - kOff K K.length)) else cI c1 4 0 3 w) = c2 at P0 v3 v4 v2
    rw [v4, i_ad]
    have P1 : PX 4 0 [2, 3, 4] c1 (csI c2 4 0 4 0 (Int32.ofNat (kOff K K.length + bs.length))) := PX_t P0 (PX_I (by decide))
    have w4 : cI (csI c2 4 0 4 0 (Int32.ofNat (kOff K K.length + bs.length))) 4 0 4 0 = Int32.ofNat (kOff K K.length + bs.length) := csI_e
    have w3 : ∀ w, cI (csI c2 4 0 4 0 (Int32.ofNat (kOff K K.length + bs.length))) 4 0 3 w = cI c2 4 0 3 w := fun w => csI_f (by decide)
    have w2 : ∀ w, cI (csI c2 4 0 4 0 (Int32.ofNat (kOff K K.length + bs.length))) 4 0 2 w = cI c1 4 0 2 w := fun w => (csI_f (by decide)).trans (v2 w)
    generalize csI c2 4 0 4 0 (Int32.ofNat (kOff K K.length + bs.length)) = c3 at P1 w4 w3 w2
    have ei : Int32.ofNat K.length * 10 + 9 = Int32.ofNat (10 * K.length + 9) := by
      rw [show (10 : Int32) = Int32.ofNat 10 from rfl, ← Int32.ofNat_mul, Nat.mul_comm]
      exact (Int32.ofNat_add _ 9).symm
    rw [ei, cwr_n rfl (by show 10 * K.length + 9 < cL c3 4 0 2; rw [PX_cL P1]; omega) (by omega)]
    have P2 : PX 4 0 [2, 3, 4] c1 (csI c3 4 0 2 (10 * K.length + 9) (Int32.ofNat bs.length)) := PX_t P1 (PX_I (by decide))
    have x4 : cI (csI c3 4 0 2 (10 * K.length + 9) (Int32.ofNat bs.length)) 4 0 4 0 = Int32.ofNat (kOff K K.length + bs.length) := (csI_f (by decide)).trans w4
    have x3 : ∀ w, cI (csI c3 4 0 2 (10 * K.length + 9) (Int32.ofNat bs.length)) 4 0 3 w = if kOff K K.length ≤ w ∧ w < kOff K K.length + bs.length then cI c1 15 0 4 (0 + (w - kOff K K.length)) else cI c1 4 0 3 w := fun w => (csI_f (by decide)).trans ((w3 w).trans (v3 w))
    have x2 : ∀ w, cI (csI c3 4 0 2 (10 * K.length + 9) (Int32.ofNat bs.length)) 4 0 2 w = if w = 10 * K.length + 9 then Int32.ofNat bs.length else cI c1 4 0 2 w := by
      intro w
      by_cases z : w = 10 * K.length + 9
      · subst z
        rw [if_pos rfl]
        exact csI_e
      · rw [if_neg z]
        exact (csI_j z).trans (w2 w)
    generalize csI c3 4 0 2 (10 * K.length + 9) (Int32.ofNat bs.length) = c4 at P2 x4 x3 x2
    refine WP_b (WP_some (RC_ak h1 (PX_k P2 (Or.inl rfl) (by decide)) (by rw [P2.2.1]; exact Nat.le_refl _) rfl (KRm_eq P2.2.2.1 P2.2.2.2 P2.2.1 h1.2.2.2.2.2.2.2.2.2.2.2.2.2.2.2.2.2.2.2.2.1) ?_))
    refine ⟨by rw [List.length_append]; exact (PX_o P2 (by decide)).trans l1, by rw [List.length_append]; exact l2, ?_, ?_, ?_, ?_, ?_⟩
    · rw [kOff_all]
      exact x4
    · rw [List.length_append, PX_cL P2]
      exact l4
    · rw [kOff_all, PX_cL P2]
      exact hL
    · intro y hy
      rcases List.mem_append.mp hy with z | z
      · exact l6 y (List.mem_append_left _ z)
      · rw [List.mem_singleton] at z
        rw [z]
        exact hl
    · intro j hj
      rw [List.length_append] at hj
      have hj : j < K.length + 1 := hj
      have m := l7 j (by rw [List.length_append]; exact hj)
      by_cases z : j = K.length
      · subst z
        rw [getD_kl, kOff_app (Nat.le_refl _)] at m ⊢
        obtain ⟨m1, m2, m3, m4, m5, m6⟩ := m
        have R : ∀ i, i < 9 → cI c4 4 0 2 (10 * K.length + i) = cI c1 4 0 2 (10 * K.length + i) := fun i hi => by
          rw [x2, if_neg (by omega)]
        refine ⟨fun i hi => (R i (by omega)).trans (m1 i hi), (R 6 (by omega)).trans m2, (R 7 (by omega)).trans m3, (R 8 (by omega)).trans m4, ?_, fun i hi => ?_⟩
        · rw [x2, if_pos rfl]
        · have hi : i < bs.length := hi
          rw [x3, if_pos (by omega), show 0 + (kOff K K.length + i - kOff K K.length) = i by omega]
          exact h15 i hi
      · have hj2 : j < K.length := by omega
        rw [getD_k hj2, kOff_app (Nat.le_of_lt hj2)] at m ⊢
        obtain ⟨m1, m2, m3, m4, m5, m6⟩ := m
        have R : ∀ i, i < 10 → cI c4 4 0 2 (10 * j + i) = cI c1 4 0 2 (10 * j + i) := fun i hi => by
          rw [x2, if_neg (by omega)]
        have ol := kOff_le hj2
        exact ⟨fun i hi => (R i (by omega)).trans (m1 i hi), (R 6 (by omega)).trans m2, (R 7 (by omega)).trans m3, (R 8 (by omega)).trans m4, (R 9 (by omega)).trans m5, fun i hi => by rw [x3, if_neg (by omega)]; exact m6 i hi⟩
  have e4 : cI c 4 0 4 0 = Int32.ofNat (kOff K K.length) := by
    have k3 := (h.2.2.2.2.2.2.2.2.2.2.2.2.2.2.2.1).2.2.1
    rw [hK, kOff_all] at k3
    exact k3
  unfold k_Askings_addBytes_15_4 k_Askings_addBytes_15_4_b0
  rw [e4, i_ad]
  by_cases z : kOff K K.length + bs.length ≤ cL c 4 0 3
  · rw [if_pos (i_gei (show cal c 4 0 3 < 2147483648 by show cL c 4 0 3 < _; omega) (by omega) |>.mpr z)]
    exact go c (RC_N h (Nat.le_succ _) (Nat.le_refl _)) z hb
  · rw [if_neg (fun y => z ((i_gei (show cal c 4 0 3 < 2147483648 by show cL c 4 0 3 < _; omega) (by omega)).mp y))]
    have en : (2 : Int32) * Int32.ofNat (kOff K K.length + bs.length) = Int32.ofNat (2 * (kOff K K.length + bs.length)) := (Int32.ofNat_mul 2 _).symm
    rw [en, cext_n rfl (by omega) (by omega)]
    refine WP_b (go _ (RC_grow h (Or.inr ⟨rfl, by omega⟩) (by omega)) ?_ (fun i hi => ?_))
    · rw [csG_L]
      omega
    · exact ((csG_o (fun z => absurd z.1 (by decide))).1 i).trans (hb i hi)
