/-! the base of a disk moves -/
theorem set_m {x y : Nat} : ∀ {p t : List Nat}, (p ++ x :: t).set p.length y = p ++ y :: t := by
  intro p t
  induction p with
  | nil => rfl
  | cons z p ih => exact congrArg (z :: ·) ih
theorem getD_m {f : Nat} {p r : List Nat} : (p ++ f :: r).getD p.length 0 = f := by
  induction p with
  | nil => rfl
  | cons z p ih => exact ih
theorem getD_a {p q : List Nat} {i : Nat} (h : i < p.length) : (p ++ q).getD i 0 = p.getD i 0 := by
  rw [List.getD_eq_getElem?_getD, List.getElem?_append_left h, List.getD_eq_getElem?_getD]
theorem getD_sc {X : List Nat} {k i f : Nat} (hk : k < X.length) : (X.set k f).getD i 0 = if i = k then f else X.getD i 0 := by
  rw [List.getD_eq_getElem?_getD, List.getElem?_set]
  by_cases q : k = i
  · rw [if_pos q, if_pos hk, if_pos q.symm]
    rfl
  · rw [if_neg q, if_neg (fun z => q z.symm), List.getD_eq_getElem?_getD]
theorem chOK_le {fc : Nat → AF} {e : Int} : ∀ (l : List Nat) (n : Int), chOK fc e n l → n ≤ e := by
  intro l
  induction l with
  | nil => exact fun n h => Int.le_of_eq h
  | cons f r ih =>
    intro n h
    have := ih _ h.2.2.2.2.2
    omega
/-- segments that stay -/
def kpA (fc : Nat → AF) (b : Int) : List Nat → Prop
  | [] => True
  | [_] => True
  | f :: g :: r => ¬ ((fc f).1 2).toInt + (aWhole (fc f)).length - 1 ≤ b ∧ kpA fc b (g :: r)
theorem kpA_of {fc : Nat → AF} {e b : Int} : ∀ (r : List Nat) (f : Nat) (n : Int), chOK fc e n (f :: r) → b + 1 < n + (aWhole (fc f)).length → kpA fc b (f :: r) := by
  intro r
  induction r with
  | nil => exact fun _ _ _ _ => True.intro
  | cons g q ih =>
    intro f n h hb
    refine ⟨?_, ih g _ h.2.2.2.2.2 (by omega)⟩
    rw [h.2.2.2.1]
    omega
theorem chOK_m {fc : Nat → AF} {e : Int} : ∀ (l : List Nat) (n : Int), chOK fc e n l → ∀ f ∈ l, 4 ≤ f ∧ f < 16 ∧ n ≤ ((fc f).1 2).toInt ∧ ((fc f).1 2).toInt + (aWhole (fc f)).length ≤ e := by
  intro l
  induction l with
  | nil => exact fun _ _ f hf => absurd hf List.not_mem_nil
  | cons x r ih =>
    intro n h f hf
    rcases List.mem_cons.mp hf with rfl | hf
    · have := chOK_le _ _ h.2.2.2.2.2
      have := h.2.2.2.1
      exact ⟨h.1, h.2.1, by omega, by omega⟩
    · obtain ⟨q1, q2, q3, q4⟩ := ih _ h.2.2.2.2.2 f hf
      exact ⟨q1, q2, by omega, q4⟩
theorem bm2 {F : Nat} {b : AA} {v : CV} {s : Nat} {base last : Int32} (hs : s < 7) (hne : ¬ last ≤ base) (hb0 : 0 ≤ base.toInt) : ∀ (N : Nat) (kp mid rest : List Nat) (c : CS), rest.length + 1 ≤ N → (∀ f ∈ rest, 1 ≤ ((aFc b s f).1 2).toInt ∧ ((aFc b s f).1 2).toInt + (aWhole (aFc b s f)).length ≤ 1073741824) → kpA (aFc b s) base.toInt rest → RC c (aChS b s (kp ++ mid ++ rest)) v → WP (k_Disk_baseMoved_b5 F N c s base last (Int32.ofNat kp.length) (Int32.ofNat (kp ++ mid).length)) (fun c' => RC c' (aChS b s (kp ++ rest)) v) := by
  intro N
  induction N with
  | zero => intro kp mid rest c h1; omega
  | succ N ih =>
    intro kp mid rest c h1 hf hk h
    have ech : aCh (aChS b s (kp ++ mid ++ rest)) s = kp ++ mid ++ rest := if_pos rfl
    have hch := h.2.2.2.2.2.2.2.2.2.2.1 s hs
    rw [ech] at hch
    obtain ⟨k1, k2, k3⟩ := hch
    have hlen : (kp ++ mid ++ rest).length = (kp ++ mid).length + rest.length := List.length_append
    have hlen2 : (kp ++ mid).length = kp.length + mid.length := List.length_append
    unfold k_Disk_baseMoved_b5
    dsimp only
    unfold k_Disk_baseMoved_b65 k_Disk_baseMoved_b61 k_Disk_baseMoved_b66 k_Disk_baseMoved_b103
    rw [k1]
    cases rest with
    | nil =>
      rw [if_pos ((i_gei (by omega) (by omega)).mpr (by rw [hlen, List.length_nil]; omega))]
      have h2 : RC (csI c 6 s 5 0 (Int32.ofNat kp.length)) (aChS (aChS b s (kp ++ mid ++ [])) s kp) v := RC_ch h (Ck_w (Ck_I (cl := 6) (i := s) (f := 5) (Or.inr rfl)) (by decide)) rfl ⟨csI_e, by omega, fun i hi => ?_⟩
      · rw [aChS_chS] at h2
        rw [List.append_nil]
        exact WP_b (WP_some h2)
      · have := k3 i (by omega)
        rw [List.append_nil, getD_a hi] at this
        rw [csI_f (by decide)]
        exact this
    | cons f r =>
      have hr : (f :: r).length = r.length + 1 := rfl
      have k4 := k3 (kp ++ mid).length (by omega)
      rw [getD_m] at k4
      obtain ⟨f1, f2, f3⟩ := k4
      obtain ⟨p1, p2⟩ := hf f List.mem_cons_self
      have hpg := (h.2.2.2.2.2.2.2.2.2.1 s hs f f2).1
      have efc : aFc (aChS b s (kp ++ mid ++ f :: r)) = aFc b := rfl
      rw [efc] at hpg
      rw [if_neg (fun y => by have := (i_gei (by omega) (by omega)).mp y; omega)]
      refine WP_eq (crd_n rfl (show (kp ++ mid).length < 16 by omega) (by omega)) ?_
      rw [f3, cix0 f2]
      refine WP_b ?_
      rw [if_neg (fun y => hne (c2_le.mp y)), hpg.2.2.1, hpg.2.2.2.2.2.1]
      have keep : WP (if xc0 .eq (1 : Int32) = true then (
            (crd c 6 s 4 (Int32.ofNat (kp ++ mid).length)).bind fun x17 =>
            (k_Disk_remove c s x17).bind fun p19 =>
            k_Disk_baseMoved_b5 F N p19 s base last (Int32.ofNat kp.length) (Int32.ofNat (kp ++ mid).length + 1)
          ) else (
            (crd c 6 s 4 (Int32.ofNat (kp ++ mid).length)).bind fun x22 =>
            (cwr c 6 s 4 (Int32.ofNat kp.length) x22).bind fun σ24 =>
            k_Disk_baseMoved_b5 F N σ24 s base last (Int32.ofNat kp.length + 1) (Int32.ofNat (kp ++ mid).length + 1))) (fun c' => RC c' (aChS b s (kp ++ f :: r)) v) := by
        rw [if_neg (by decide)]
        refine WP_eq (crd_n rfl (show (kp ++ mid).length < 16 by omega) (by omega)) ?_
        rw [f3]
        refine WP_eq (cwr_n rfl (show kp.length < 16 by omega) (by omega)) ?_
        rw [i_s, i_s]
        have h2 : RC (csI c 6 s 4 kp.length (Int32.ofNat f)) (aChS (aChS b s (kp ++ mid ++ f :: r)) s ((kp ++ mid ++ f :: r).set kp.length f)) v := RC_ch h (Ck_w (Ck_I (cl := 6) (i := s) (f := 4) (Or.inr rfl)) (by decide)) rfl ⟨by rw [csI_f (by decide), List.length_set]; exact k1, by rw [List.length_set]; exact k2, fun i hi => by
          rw [List.length_set] at hi
          rw [getD_sc (by omega)]
          by_cases q : i = kp.length
          · rw [if_pos q, q, csI_e]
            exact ⟨f1, f2, rfl⟩
          · rw [if_neg q, csI_j q]
            exact k3 i hi⟩
        rw [aChS_chS] at h2
        have e3 : kp ++ f :: r = (kp ++ [f]) ++ r := by simp
        cases mid with
        | nil =>
          rw [List.append_nil, set_m] at h2
          have := ih (kp ++ [f]) [] r _ (by omega) (fun g hg => hf g (List.mem_cons_of_mem _ hg)) (by
            cases r with
            | nil => exact True.intro
            | cons g q => exact hk.2) (by rw [List.append_nil, ← e3]; exact h2)
          rw [e3]
          have l1 : (kp ++ [f]).length = kp.length + 1 := by simp
          rw [List.append_nil, l1] at this
          rw [List.append_nil]
          exact this
        | cons m ms =>
          rw [List.append_assoc, List.cons_append, set_m] at h2
          have := ih (kp ++ [f]) (ms ++ [f]) r _ (by omega) (fun g hg => hf g (List.mem_cons_of_mem _ hg)) (by
            cases r with
            | nil => exact True.intro
            | cons g q => exact hk.2) (by
              have e4 : kp ++ [f] ++ (ms ++ [f]) ++ r = kp ++ f :: (ms ++ f :: r) := by simp
              rw [e4]
              exact h2)
          rw [e3]
          have l1 : (kp ++ [f]).length = kp.length + 1 := by simp
          have l2 : (kp ++ [f] ++ (ms ++ [f])).length = (kp ++ m :: ms).length + 1 := by simp; omega
          rw [l2, l1] at this
          exact this
      refine WP_if c2_eq (fun _ => keep) (fun q => ?_)
      have hr2 : r ≠ [] := by
        intro z
        refine q ?_
        rw [z] at hlen ⊢
        rw [hlen, show (f :: ([] : List Nat)).length = 1 from rfl, i_pre (by omega), show (kp ++ mid).length + 1 - 1 = (kp ++ mid).length by omega]
      obtain ⟨g, q2, rfl⟩ : ∃ g q2, r = g :: q2 := by
        cases r with
        | nil => exact absurd rfl hr2
        | cons g q2 => exact ⟨g, q2, rfl⟩
      have h12 := hpg.2.2.2.2.2.2.2.2.2.2.1
      refine WP_if c2_le (fun z => ?_) (fun _ => keep)
      rw [Int32.le_iff_toInt_le, i_subI (by rw [i_addI (by rw [Int32.toInt_ofNat_of_lt (by omega)]; omega) (by rw [Int32.toInt_ofNat_of_lt (by omega)]; omega), Int32.toInt_ofNat_of_lt (by omega), i_1]; omega) (by rw [i_addI (by rw [Int32.toInt_ofNat_of_lt (by omega)]; omega) (by rw [Int32.toInt_ofNat_of_lt (by omega)]; omega), Int32.toInt_ofNat_of_lt (by omega), i_1]; omega), i_addI (by rw [Int32.toInt_ofNat_of_lt (by omega)]; omega) (by rw [Int32.toInt_ofNat_of_lt (by omega)]; omega), Int32.toInt_ofNat_of_lt (by omega), i_1] at z
      exact absurd z hk.1
theorem aChS_self {a : AA} {s : Nat} : aChS a s (aCh a s) = a := by
  have e : aU (aCh a) s (aCh a s) = aCh a := aU_self
  unfold aChS
  rw [e]
  rfl
theorem aOldN_c {a : AA} {s f : Nat} {r : List Nat} (h : aLast a s = aBase a s ∨ ∃ g q, r = g :: q ∧ (aFc a s g).1 2 ≤ aBase a s + 1) : aOldN a s (f :: r) = (f :: (aOldN a s r).1, (aOldN a s r).2) := by
  unfold aOldN
  by_cases z : aLast a s = aBase a s
  · rw [if_pos z, if_pos z]
  · rw [if_neg z, if_neg z]
    obtain ⟨g, q, rfl, h'⟩ := h.resolve_left z
    exact if_pos h'
theorem aOldN_s {a : AA} {s f : Nat} {r : List Nat} (z : ¬ aLast a s = aBase a s) (h : ∀ g q, r = g :: q → ¬ (aFc a s g).1 2 ≤ aBase a s + 1) : aOldN a s (f :: r) = ([], f :: r) := by
  unfold aOldN
  rw [if_neg z]
  cases r with
  | nil => rfl
  | cons g q => exact if_neg (h g q rfl)
theorem K_baseMoved {F : Nat} {c : CS} {a : AA} {v : CV} {s : Nat} (hF : 20 ≤ F) (h : RC c a v) (hs : s < 7) (w : WLg a s) (hp : WPre a s) : WP (k_Disk_baseMoved F c s (aBase a s) (aLast a s)) (fun c' => RC c' (aTrim a s) v) := by
  obtain ⟨w1, w2, w3, w4⟩ := id w
  obtain ⟨n1, n2, n3⟩ := hp
  have hle : aLast a s ≤ aBase a s ↔ aLast a s = aBase a s := by
    rw [Int32.le_iff_toInt_le, ← Int32.toInt_inj]
    omega
  unfold k_Disk_baseMoved k_Disk_baseMoved_b0
  have key : ∀ (N : Nat) (pre rest : List Nat) (c : CS), rest.length + 1 ≤ N → pre ++ rest = aCh a s → aOldN a s (aCh a s) = (pre ++ (aOldN a s rest).1, (aOldN a s rest).2) → (aLast a s = aBase a s ∨ ∃ n : Int, 1 ≤ n ∧ chOK (aFc a s) ((aLast a s).toInt + 1) n rest) → RC c (aChS (aRemoveAll a s pre) s (aCh a s)) v → WP (k_Disk_baseMoved_b5 F N c s (aBase a s) (aLast a s) (Int32.ofNat 0) (Int32.ofNat pre.length)) (fun c' => RC c' (aTrim a s) v) := by
    intro N
    induction N with
    | zero => intro pre rest c h1; omega
    | succ N ih =>
      intro pre rest c h1 h2 h3 h4 h5
      have nd : ∀ g ∈ rest, g ∉ pre := by
        rw [← h2, List.nodup_append] at n1
        exact fun g hg hg2 => n1.2.2 g hg2 g hg rfl
      have efc : ∀ g, g ∉ pre → aFc (aRemoveAll a s pre) s g = aFc a s g := fun g hg => (rmAll_fc pre a s g).2.1 (fun y => hg y.2)
      by_cases stop : (aOldN a s rest).1 = [] ∧ (aOldN a s rest).2 = rest ∧ ¬ aLast a s = aBase a s ∧ kpA (aFc a s) (aBase a s).toInt rest
      · obtain ⟨e1, e2, e3, e4⟩ := stop
        obtain ⟨n, g1, g2⟩ := h4.resolve_left e3
        have eT : aTrim a s = aChS (aRemoveAll a s pre) s rest := by rw [aTrim_e, h3, e1, e2, List.append_nil]
        rw [eT]
        have kc : ∀ (fc fc' : Nat → AF) (l : List Nat), (∀ g ∈ l, fc' g = fc g) → kpA fc (aBase a s).toInt l → kpA fc' (aBase a s).toInt l := by
          intro fc fc' l
          induction l with
          | nil => exact fun _ _ => True.intro
          | cons x r ih2 =>
            intro hx hk
            cases r with
            | nil => exact True.intro
            | cons y r =>
              refine ⟨?_, ih2 (fun g hg => hx g (List.mem_cons_of_mem _ hg)) hk.2⟩
              rw [hx x List.mem_cons_self]
              exact hk.1
        have := bm2 (F := F) (base := aBase a s) (last := aLast a s) hs (fun z => e3 (hle.mp z)) w1 (N + 1) [] pre rest c h1 (fun g hg => by
          rw [efc g (nd g hg)]
          obtain ⟨y1, y2, y3, y4⟩ := chOK_m _ _ g2 g hg
          exact ⟨by omega, by omega⟩) (kc _ _ rest (fun g hg => efc g (nd g hg)) e4) (by
          rw [show ([] : List Nat) ++ pre ++ rest = aCh a s from h2]
          exact h5)
        exact this
      · cases rest with
        | nil =>
          have el : aLast a s = aBase a s := Classical.byContradiction (fun z => stop ⟨by unfold aOldN; rw [if_neg z]; rfl, by unfold aOldN; rw [if_neg z]; rfl, z, True.intro⟩)
          have eT : aTrim a s = aChS (aRemoveAll a s pre) s [] := by
            rw [aTrim_e, h3]
            have e0 : aOldN a s [] = ([], []) := by
              unfold aOldN
              split <;> rfl
            rw [e0, List.append_nil]
          rw [eT]
          have hch := h5.2.2.2.2.2.2.2.2.2.2.1 s hs
          rw [show aCh (aChS (aRemoveAll a s pre) s (aCh a s)) s = aCh a s from if_pos rfl, ← h2, List.append_nil] at hch
          unfold k_Disk_baseMoved_b5
          dsimp only
          have h12 := hch.2.1
          rw [hch.1, if_pos ((i_gei (by omega) (by omega)).mpr (Nat.le_refl _))]
          have h6 : RC (csI c 6 s 5 0 (Int32.ofNat 0)) (aChS (aChS (aRemoveAll a s pre) s (aCh a s)) s []) v := RC_ch h5 (Ck_w (Ck_I (cl := 6) (i := s) (f := 5) (Or.inr rfl)) (by decide)) rfl ⟨csI_e, Nat.zero_le _, fun i hi => absurd hi (Nat.not_lt_zero _)⟩
          rw [aChS_chS] at h6
          exact WP_b (WP_some h6)
        | cons f r =>
          have hch := h5.2.2.2.2.2.2.2.2.2.2.1 s hs
          rw [show aCh (aChS (aRemoveAll a s pre) s (aCh a s)) s = aCh a s from if_pos rfl, ← h2] at hch
          obtain ⟨k1, k2, k3⟩ := hch
          have hlen : (pre ++ f :: r).length = pre.length + (r.length + 1) := List.length_append
          have k4 := k3 pre.length (by omega)
          rw [getD_m] at k4
          obtain ⟨f1, f2, f3⟩ := k4
          have hpg := (h5.2.2.2.2.2.2.2.2.2.1 s hs f f2).1
          rw [show aFc (aChS (aRemoveAll a s pre) s (aCh a s)) s f = aFc (aRemoveAll a s pre) s f from rfl, efc f (nd f List.mem_cons_self)] at hpg
          unfold k_Disk_baseMoved_b5
          dsimp only
          unfold k_Disk_baseMoved_b65 k_Disk_baseMoved_b61 k_Disk_baseMoved_b66 k_Disk_baseMoved_b103
          rw [k1, if_neg (fun y => by have := (i_gei (by omega) (by omega)).mp y; omega)]
          refine WP_eq (crd_n rfl (show pre.length < 16 by omega) (by omega)) ?_
          rw [f3, cix0 f2]
          refine WP_b ?_
          rw [hpg.2.2.1, hpg.2.2.2.2.2.1]
          have go : (aLast a s = aBase a s ∨ ∃ g q, r = g :: q ∧ (aFc a s g).1 2 ≤ aBase a s + 1) → WP (if xc0 .eq (0 : Int32) = true then (
              (crd c 6 s 4 (Int32.ofNat pre.length)).bind fun x17 =>
              (k_Disk_remove c s x17).bind fun p19 =>
              k_Disk_baseMoved_b5 F N p19 s (aBase a s) (aLast a s) (Int32.ofNat 0) (Int32.ofNat pre.length + 1)
            ) else (
              (crd c 6 s 4 (Int32.ofNat pre.length)).bind fun x22 =>
              (cwr c 6 s 4 (Int32.ofNat 0) x22).bind fun σ24 =>
              k_Disk_baseMoved_b5 F N σ24 s (aBase a s) (aLast a s) (Int32.ofNat 0 + 1) (Int32.ofNat pre.length + 1))) (fun c' => RC c' (aTrim a s) v) := by
            intro hgo
            rw [if_pos (by decide)]
            refine WP_eq (crd_n rfl (show pre.length < 16 by omega) (by omega)) ?_
            rw [f3]
            refine WP_call (K_remove h5 hs f2 ⟨by omega, by omega⟩) (fun c' h' => ?_)
            rw [aRemove_ch, ← rmAll_app] at h'
            rw [i_s]
            have e1 := aOldN_c (f := f) hgo
            have := ih (pre ++ [f]) r c' (by rw [List.length_cons] at h1; omega) (by rw [← h2]; simp) (by rw [h3, e1]; simp) (h4.imp id (fun ⟨n, g1, g2⟩ => ⟨_, by omega, g2.2.2.2.2.2⟩)) h'
            rw [show (pre ++ [f]).length = pre.length + 1 by simp] at this
            exact this
          refine WP_if c2_le (fun z => go (Or.inl (hle.mp z))) (fun z => ?_)
          have z' : ¬ aLast a s = aBase a s := fun y => z (hle.mpr y)
          obtain ⟨n, g1, g2⟩ := h4.resolve_left z'
          have hm := chOK_m _ _ g2 f List.mem_cons_self
          -- it goes on
          have hgo : ∃ g q, r = g :: q ∧ (aFc a s g).1 2 ≤ aBase a s + 1 := by
            refine Classical.byContradiction (fun y => stop ?_)
            have e1 := aOldN_s (f := f) (r := r) z' (fun g q e k => y ⟨g, q, e, k⟩)
            rw [e1]
            refine ⟨rfl, rfl, z', ?_⟩
            cases r with
            | nil => exact True.intro
            | cons g q =>
              refine kpA_of _ _ _ g2 ?_
              have y2 : ¬ (aFc a s g).1 2 ≤ aBase a s + 1 := fun k => y ⟨g, q, rfl, k⟩
              rw [Int32.le_iff_toInt_le, i_succ (by omega), g2.2.2.2.2.2.2.2.2.1] at y2
              omega
          obtain ⟨g, q, rfl, hg⟩ := hgo
          rw [if_neg (fun y => by
            have := c2_eq.mp y
            rw [hlen, i_pre (by omega)] at this
            have := congrArg Int32.toInt this
            rw [Int32.toInt_ofNat_of_lt (by omega), Int32.toInt_ofNat_of_lt (by omega), List.length_cons] at this
            omega)]
          refine WP_if c2_le (fun _ => go (Or.inr ⟨g, q, rfl, hg⟩)) (fun y => absurd ?_ y)
          have h12 := hpg.2.2.2.2.2.2.2.2.2.2.1
          obtain ⟨m1, m2, m3, m4⟩ := hm
          rw [Int32.le_iff_toInt_le, i_succ (by omega), g2.2.2.2.2.2.2.2.2.1] at hg
          rw [Int32.le_iff_toInt_le, i_subI (by rw [i_addI (by rw [Int32.toInt_ofNat_of_lt (by omega)]; omega) (by rw [Int32.toInt_ofNat_of_lt (by omega)]; omega), Int32.toInt_ofNat_of_lt (by omega), i_1]; omega) (by rw [i_addI (by rw [Int32.toInt_ofNat_of_lt (by omega)]; omega) (by rw [Int32.toInt_ofNat_of_lt (by omega)]; omega), Int32.toInt_ofNat_of_lt (by omega), i_1]; omega), i_addI (by rw [Int32.toInt_ofNat_of_lt (by omega)]; omega) (by rw [Int32.toInt_ofNat_of_lt (by omega)]; omega), Int32.toInt_ofNat_of_lt (by omega), i_1]
          have := g2.2.2.2.1
          omega
  have hlen := (h.2.2.2.2.2.2.2.2.2.2.1 s hs).2.1
  exact key F [] (aCh a s) c (by omega) rfl rfl (n3.imp id (fun ⟨n, g1, _, g3⟩ => ⟨n, g1, g3⟩)) (by
    show RC c (aChS a s (aCh a s)) v
    rw [aChS_self]
    exact h)
