/-! the walk of the law's entry (printed by wip/whole/gen_ent2.py) -/
def kE : xK := [(0, (.new 8, 3)), (3, (.dup, 1)), (4, (.aload_n 0, 1)), (5, (.iconst 0, 1)), (6, (.invokestatic 103, 3)), (9, (.aload_n 0, 1)), (10, (.iconst 1, 1)), (11, (.invokestatic 103, 3)), (14, (.i2l, 1)), (15, (.invokespecial 109, 3)), (18, (.astore_n 1, 1)), (19, (.new 112, 3)), (22, (.dup, 1)), (23, (.aload_n 0, 1)), (24, (.iconst 0, 1)), (25, (.invokestatic 103, 3)), (28, (.aload_n 0, 1)), (29, (.iconst 1, 1)), (30, (.invokestatic 103, 3)), (33, (.i2l, 1)), (34, (.invokespecial 114, 3)), (37, (.astore_n 2, 1)), (38, (.iconst 1, 1)), (39, (.newarray .long, 2)), (41, (.astore_n 3, 1)), (42, (.iconst 2, 1)), (43, (.istore 4, 2))]
theorem kEo : xKok cL_law kE := by unfold xKok; decide +kernel
theorem le_0 : xAt kE 0 (.new 8) 3 := ⟨3, rfl, Or.inr rfl, rfl⟩
theorem le_3 : xAt kE 3 (.dup) 4 := ⟨1, rfl, Or.inr rfl, rfl⟩
theorem le_4 : xAt kE 4 (.aload_n 0) 5 := ⟨1, rfl, Or.inr rfl, rfl⟩
theorem le_5 : xAt kE 5 (.iconst 0) 6 := ⟨1, rfl, Or.inr rfl, rfl⟩
theorem le_6 : xAt kE 6 (.invokestatic 103) 9 := ⟨3, rfl, Or.inr rfl, rfl⟩
theorem le_9 : xAt kE 9 (.aload_n 0) 10 := ⟨1, rfl, Or.inr rfl, rfl⟩
theorem le_10 : xAt kE 10 (.iconst 1) 11 := ⟨1, rfl, Or.inr rfl, rfl⟩
theorem le_11 : xAt kE 11 (.invokestatic 103) 14 := ⟨3, rfl, Or.inr rfl, rfl⟩
theorem le_14 : xAt kE 14 (.i2l) 15 := ⟨1, rfl, Or.inr rfl, rfl⟩
theorem le_15 : xAt kE 15 (.invokespecial 109) 18 := ⟨3, rfl, Or.inr rfl, rfl⟩
theorem le_18 : xAt kE 18 (.astore_n 1) 19 := ⟨1, rfl, Or.inr rfl, rfl⟩
theorem le_19 : xAt kE 19 (.new 112) 22 := ⟨3, rfl, Or.inr rfl, rfl⟩
theorem le_22 : xAt kE 22 (.dup) 23 := ⟨1, rfl, Or.inr rfl, rfl⟩
theorem le_23 : xAt kE 23 (.aload_n 0) 24 := ⟨1, rfl, Or.inr rfl, rfl⟩
theorem le_24 : xAt kE 24 (.iconst 0) 25 := ⟨1, rfl, Or.inr rfl, rfl⟩
theorem le_25 : xAt kE 25 (.invokestatic 103) 28 := ⟨3, rfl, Or.inr rfl, rfl⟩
theorem le_28 : xAt kE 28 (.aload_n 0) 29 := ⟨1, rfl, Or.inr rfl, rfl⟩
theorem le_29 : xAt kE 29 (.iconst 1) 30 := ⟨1, rfl, Or.inr rfl, rfl⟩
theorem le_30 : xAt kE 30 (.invokestatic 103) 33 := ⟨3, rfl, Or.inr rfl, rfl⟩
theorem le_33 : xAt kE 33 (.i2l) 34 := ⟨1, rfl, Or.inr rfl, rfl⟩
theorem le_34 : xAt kE 34 (.invokespecial 114) 37 := ⟨3, rfl, Or.inr rfl, rfl⟩
theorem le_37 : xAt kE 37 (.astore_n 2) 38 := ⟨1, rfl, Or.inr rfl, rfl⟩
theorem le_38 : xAt kE 38 (.iconst 1) 39 := ⟨1, rfl, Or.inr rfl, rfl⟩
theorem le_39 : xAt kE 39 (.newarray .long) 41 := ⟨2, rfl, Or.inr rfl, rfl⟩
theorem le_41 : xAt kE 41 (.astore_n 3) 42 := ⟨1, rfl, Or.inr rfl, rfl⟩
theorem le_42 : xAt kE 42 (.iconst 2) 43 := ⟨1, rfl, Or.inr rfl, rfl⟩
theorem le_43 : xAt kE 43 (.istore 4) 45 := ⟨2, rfl, Or.inr rfl, rfl⟩
theorem lwS_of {h h' : xH} {b L : Nat} {xs : Nat → Int32} (hS : lwS h b L xs) (e : h'.1 b = h.1 b) : lwS h' b L xs := by
  unfold lwS
  rw [e]
  exact hS
/-- the first two numbers of the script -/
def eI (L : Nat) (xs : Nat → Int32) : Int32 := if 0 < L then xs 0 else 0
def eJ (L : Nat) (xs : Nat → Int32) : Int64 := (if 1 < L then xs 1 else 0 : Int32).toInt64
/-- slots: behind the store, the reference, the answer's place -/
def eU1 : Nat := suc (sus (su0 (0 + (xCl 15).2.2)) 7) 8
def eU : Nat := eU1 + (xCl 16).2.2 + rsl 122 + 1
theorem eU_le : eU ≤ 7000000 := by decide +kernel
/-- the heap at the loop's head -/
def eF (f0 : Nat → xC) (N eD : Nat) (I : Int32) (J : Int64) (σ0 : RS) : Nat → xC := xset (layR (N + 1138) σ0 (hbl f0 N (c220_F N eD I J))) (N + 1138 + 123) (21, 1, fun _ => .long 0)
section EE
variable {p : Program} {l : Launch} {e : Env} {s : State} {m : MethodId} {args : Array Value} {below : List Frame} {meth : Method} {cd : Code} {G0 : Heap} {Y : State → Prop} {D : va_G} {dA : Nat → ClassId} {N : Nat} {Q : State → Prop} {pF : Nat → List Value → xH → Option (Option Value × xH)}
theorem l_e1 {f0 : Nat → xC} {eD b L : Nat} {xs : Nat → Int32} (hB : yB eD pF) (hp0 : xNPc pF) (hS : lwS (f0, N, 0) b L xs) (hb : b < N) (hL : L ≤ 3074) :
    xQ pF 31 kE 17 7 false (18, lv_args 0 [.ref b], [.ref N], (hbl f0 N (c220_F N eD (eI L xs) (eJ L xs)), N + 1138, eU1)) (0, lv_args 0 [.ref b], [], (f0, N, 0)) := by
  have hp : ∀ as h, pF 385 as h = none := fun as h => hB.1 385 as h (by decide) (by decide) (by decide)
  refine eQ_new (ci := 15) (h' := (hbl f0 N [ocell 15], N + 1, 0 + (xCl 15).2.2)) le_0 (by decide +kernel) (by decide +kernel) ?_ ?_
  · show _ = (xset f0 N (ocell 15), _, _)
    rw [hbl_1]
  have hS1 : lwS (hbl f0 N [ocell 15], N + 1, 0 + (xCl 15).2.2) b L xs := lwS_of hS (hbl_out (fun z => absurd z.1 (Nat.not_le.mpr hb)))
  refine eQ_dup le_3 rfl ?_
  refine eQ_aload_n le_4 (x := b) rfl ?_
  refine eQ_iconst (v := Int32.ofNat 0) le_5 (by decide) ?_
  refine eQ_stat (as := [.ref b, .int (Int32.ofNat 0)]) (n := 2) (r := some (.int (eI L xs))) (y := 385) le_6 (by decide +kernel) (by decide +kernel) rfl rfl (Nat.le_of_ble_eq_true rfl) (by decide) (by decide +kernel) (lcell_ok (d := 30) hp hS1 hL (by decide)) ?_
  refine eQ_aload_n le_9 (x := b) rfl ?_
  refine eQ_iconst (v := Int32.ofNat 1) le_10 (by decide) ?_
  refine eQ_stat (as := [.ref b, .int (Int32.ofNat 1)]) (n := 2) (r := some (.int (if 1 < L then xs 1 else 0))) (y := 385) le_11 (by decide +kernel) (by decide +kernel) rfl rfl (Nat.le_of_ble_eq_true rfl) (by decide) (by decide +kernel) (lcell_ok (d := 30) hp hS1 hL (by decide)) ?_
  refine eQ_i2l le_14 ?_
  refine eQ_init (b := N) (as := [.int (eI L xs), .long (eJ L xs)]) (n := 2) (y := 220) le_15 (Or.inl (by decide +kernel)) (by decide +kernel) rfl rfl (Nat.le_of_ble_eq_true rfl) (by decide +kernel) (c220_ok (d := 24) (eD := eD) hB hp0) ?_
  exact xQ_r
theorem l_e2 {f0 : Nat → xC} {eD b L N1 U1 : Nat} {xs : Nat → Int32} (hB : yB eD pF) (hp1 : xNP pF) (hS : lwS (f0, N1, U1) b L xs) (hb : b < N1) (hL : L ≤ 3074) {xa Fm : Nat} {σ0 : RS} (hm : m_init Fm (eI L xs) (eJ L xs) = some σ0) {lv : xL} (g0 : xg lv 0 = some (.ref b)) :
    xQ pF 31 kE 17 7 false (37, lv, [.ref N1], (layR N1 σ0 f0, N1 + 123, U1 + (xCl 16).2.2 + rsl 122)) (19, lv, [], (f0, N1, U1)) := by
  have hp : ∀ as h, pF 385 as h = none := fun as h => hB.1 385 as h (by decide) (by decide) (by decide)
  refine eQ_new (ci := 16) (h' := (rin N1 0 f0, N1 + 1, U1 + (xCl 16).2.2)) le_19 (by decide +kernel) (by decide +kernel) ?_ ?_
  · show _ = (xset f0 N1 _, _, _)
    rw [← r_new]; rfl
  have hS1 : lwS (rin N1 0 f0, N1 + 1, U1 + (xCl 16).2.2) b L xs := lwS_of hS (by
    show rin N1 0 f0 b = f0 b
    unfold rin
    rw [if_neg (by omega), if_neg (by omega)])
  refine eQ_dup le_22 rfl ?_
  refine eQ_aload_n le_23 g0 ?_
  refine eQ_iconst (v := Int32.ofNat 0) le_24 (by decide) ?_
  refine eQ_stat (as := [.ref b, .int (Int32.ofNat 0)]) (n := 2) (r := some (.int (eI L xs))) (y := 385) le_25 (by decide +kernel) (by decide +kernel) rfl rfl (Nat.le_of_ble_eq_true rfl) (by decide) (by decide +kernel) (lcell_ok (d := 30) hp hS1 hL (by decide)) ?_
  refine eQ_aload_n le_28 g0 ?_
  refine eQ_iconst (v := Int32.ofNat 1) le_29 (by decide) ?_
  refine eQ_stat (as := [.ref b, .int (Int32.ofNat 1)]) (n := 2) (r := some (.int (if 1 < L then xs 1 else 0))) (y := 385) le_30 (by decide +kernel) (by decide +kernel) rfl rfl (Nat.le_of_ble_eq_true rfl) (by decide) (by decide +kernel) (lcell_ok (d := 30) hp hS1 hL (by decide)) ?_
  refine eQ_i2l le_33 ?_
  refine eQ_init (b := N1) (as := [.int (eI L xs), .long (eJ L xs)]) (n := 2) (y := 297) le_34 (Or.inl (by decide +kernel)) (by decide +kernel) rfl rfl (Nat.le_of_ble_eq_true rfl) (by decide +kernel) (m_init_ok (d := 28) hp1 hm) ?_
  exact xQ_r
theorem l_entry (C : lwC p l s m args cd G0 Y D dA N pF) {f0 : Nat → xC} {eD b L : Nat} {xs : Nat → Int32} (hB : yB eD pF) (hp0 : xNPc pF) (hp1 : xNP pF) (hS : lwS (f0, N, 0) b L xs) (hb : b < N) (hL : L ≤ 3074) {Fm : Nat} {σ0 : RS} (hm : m_init Fm (eI L xs) (eJ L xs) = some σ0)
    (kk : ∀ lv, lwG lv b N (N + 1138) (N + 1138 + 123) 2 → lwW p l e s m args below meth cd G0 D dA N N 0 Q 45 lv [] (eF f0 N eD (eI L xs) (eJ L xs) σ0, N + 1138 + 124, eU)) : lwW p l e s m args below meth cd G0 D dA N N 0 Q 0 (lv_args 0 [.ref b]) [] (f0, N, 0) := by
  have hE := eU_le
  have q0 : lwR N N 0 (f0, N, 0) := ⟨Nat.le_refl _, Nat.le_refl _, Nat.le_refl _, by show N - N ≤ _; omega, Nat.zero_le _⟩
  have hU1 : eU1 ≤ eU := by unfold eU; omega
  have hr : ∀ (f : Nat → xC) (a u : Nat), a ≤ 2000 → u ≤ eU → lwR N N 0 (f, N + a, u) := fun f a u ha hu => ⟨Nat.le_add_right _ _, Nat.le_add_right _ _, Nat.zero_le _, by show N + a - N ≤ _; omega, by show u - 0 ≤ _; omega⟩
  refine lwQ1 C kEo (l_e1 hB hp0 hS hb hL) q0 (hr _ 1138 _ (by omega) hU1) ?_
  have hS2 : lwS (hbl f0 N (c220_F N eD (eI L xs) (eJ L xs)), N + 1138, eU1) b L xs := lwS_of hS (hbl_out (fun z => absurd z.1 (Nat.not_le.mpr hb)))
  obtain ⟨lv1, elv1⟩ : ∃ lv1, lv1 = xs1 1 (.ref N) (lv_args 0 [.ref b]) := ⟨_, rfl⟩
  have a0 : xg lv1 0 = some (.ref b) := by rw [elv1]; exact xs1_keep.2 0 _ (by decide) (fun _ => rfl) rfl
  have a1 : xg lv1 1 = some (.ref N) := by rw [elv1]; exact xs1_keep.1
  refine lwQ1 C kEo (f := (18, lv_args 0 [.ref b], [.ref N], (hbl f0 N (c220_F N eD (eI L xs) (eJ L xs)), N + 1138, eU1))) (g := (37, lv1, [.ref (N + 1138)], (layR (N + 1138) σ0 (hbl f0 N (c220_F N eD (eI L xs) (eJ L xs))), N + 1138 + 123, eU1 + (xCl 16).2.2 + rsl 122))) ?_ (hr _ 1138 _ (by omega) hU1) (hr _ 1261 _ (by omega) (by unfold eU; omega)) ?_
  · refine eQ_astore_n le_18 (by decide) elv1.symm ?_
    exact l_e2 (xa := N) hB hp1 hS2 (by omega) hL hm a0
  obtain ⟨lv2, elv2⟩ : ∃ lv2, lv2 = xs1 2 (.ref (N + 1138)) lv1 := ⟨_, rfl⟩
  obtain ⟨lv3, elv3⟩ : ∃ lv3, lv3 = xs1 3 (.ref (N + 1138 + 123)) lv2 := ⟨_, rfl⟩
  obtain ⟨lv4, elv4⟩ : ∃ lv4, lv4 = xs1 4 (.int (Int32.ofNat 2)) lv3 := ⟨_, rfl⟩
  refine lwQ1 C kEo (f := (37, lv1, [.ref (N + 1138)], (layR (N + 1138) σ0 (hbl f0 N (c220_F N eD (eI L xs) (eJ L xs))), N + 1138 + 123, eU1 + (xCl 16).2.2 + rsl 122))) (g := (45, lv4, [], (eF f0 N eD (eI L xs) (eJ L xs) σ0, N + 1138 + 124, eU))) ?_ (hr _ 1261 _ (by omega) (by unfold eU; omega)) (hr _ 1262 _ (by omega) (Nat.le_refl _)) (kk lv4 ?_)
  · refine eQ_astore_n le_37 (by decide) elv2.symm ?_
    refine eQ_iconst (v := 1) le_38 (by decide) ?_
    refine eQ_newa (j := 1) (h' := (eF f0 N eD (eI L xs) (eJ L xs) σ0, N + 1138 + 124, eU)) le_39 rfl ⟨by decide, by decide⟩ rfl ?_
    refine eQ_astore_n le_41 (by decide) elv3.symm ?_
    refine eQ_iconst (v := Int32.ofNat 2) le_42 (by decide) ?_
    refine eQ_istore le_43 (by decide) elv4.symm ?_
    exact xQ_r
  · subst elv4 elv3 elv2
    exact ⟨xs1_keep.2 0 _ (by decide) (fun _ => rfl) (xs1_keep.2 0 _ (by decide) (fun _ => rfl) (xs1_keep.2 0 _ (by decide) (fun _ => rfl) a0)), xs1_keep.2 1 _ (by decide) (fun _ => rfl) (xs1_keep.2 1 _ (by decide) (fun _ => rfl) (xs1_keep.2 1 _ (by decide) (fun _ => rfl) a1)), xs1_keep.2 2 _ (by decide) (fun _ => rfl) (xs1_keep.2 2 _ (by decide) (fun _ => rfl) xs1_keep.1), xs1_keep.2 3 _ (by decide) (fun _ => rfl) xs1_keep.1, xs1_keep.1⟩
end EE
/-! the law's memory at the loop's head -/
theorem l_mem0 {b L N eD : Nat} {xs : Nat → Int32} {I : Int32} {J : Int64} {σ0 : RS} {f0 : Nat → xC} (hb : b < N) (he : eD < N) (hne : b ≠ eD) (h1 : f0 b = (99, L, fun j => .int (xs j))) (h2 : f0 eD = (24, 0, fun _ => .null)) :
    ∃ f : Nat → xC, (∀ a, eF f0 N eD I J σ0 a = f a ∨ xeqv (eF f0 N eD I J σ0 a) (f a)) ∧ lP b (N + 1138 + 123) (N + 1138) eD ∧ CRep (lE N b L xs (N + 1138 + 123) (fun _ => .long 0) (N + 1138) σ0 eD) (cAA N) (c0 (stm I) J (N + 1138 + 124, eU)) (f, N + 1138 + 124, eU) := by
  obtain ⟨X, eX⟩ : ∃ X, X = lX b L xs (N + 1138 + 123) (fun _ => .long 0) (N + 1138) σ0 eD := ⟨_, rfl⟩
  have hp : lP b (N + 1138 + 123) (N + 1138) eD := ⟨by omega, by omega, rfl, hne⟩
  have eout : ∀ a, ¬ (N + 1138 ≤ a ∧ a ≤ N + 1138 + 122) → a ≠ N + 1138 + 123 → eF f0 N eD I J σ0 a = hbl f0 N (c220_F N eD I J) a := by
    intro a q1 q2
    unfold eF xset layR
    rw [if_neg q2, if_neg q1]
  refine ⟨fun a => if N ≤ a ∧ a < N + 1138 then ccell (cE0 N eD X) (cAA N) (c0 (stm I) J (N + 1138 + 124, eU)) (cdec (a - N)) else eF f0 N eD I J σ0 a, fun a => ?_, hp, ?_⟩
  · by_cases q : N ≤ a ∧ a < N + 1138
    · right
      obtain ⟨x, k1, k2⟩ := ceq_all (B := N) (eD := eD) (X := X) (I := I) (J := J) (T := (N + 1138 + 124, eU)) (d := a - N) (by omega)
      have e1 : eF f0 N eD I J σ0 a = x := by
        rw [eout a (by omega) (by omega), show a = N + (a - N) by omega]
        exact hbl_in k1
      rw [e1]
      show xeqv x (if N ≤ a ∧ a < N + 1138 then _ else _)
      rw [if_pos q]
      exact k2
    · left
      show _ = (if N ≤ a ∧ a < N + 1138 then _ else _)
      rw [if_neg q]
  · have hE : lE N b L xs (N + 1138 + 123) (fun _ => .long 0) (N + 1138) σ0 eD = cE0 N eD X := by rw [eX]; rfl
    rw [hE]
    refine CRep_0 (by omega) (fun a x hx => ?_) (by rw [eX]; exact lX_eD hp) (fun d hd => ?_)
    · show (if N ≤ a ∧ a < N + 1138 then _ else eF f0 N eD I J σ0 a) = x ∧ _
      rw [eX] at hx
      unfold lX at hx
      by_cases q1 : N + 1138 ≤ a ∧ a ≤ N + 1138 + 122
      · rw [if_pos q1] at hx
        obtain rfl := Option.some.inj hx
        rw [if_neg (by omega)]
        refine ⟨?_, by omega, by omega⟩
        unfold eF xset layR
        rw [if_neg (by omega), if_pos q1]
      · rw [if_neg q1] at hx
        by_cases q2 : a = N + 1138 + 123
        · rw [if_pos q2] at hx
          cases hx
          rw [if_neg (by omega)]
          refine ⟨?_, by omega, by omega⟩
          unfold eF xset
          rw [if_pos q2]
        · rw [if_neg q2] at hx
          by_cases q3 : a = b
          · rw [if_pos q3] at hx
            cases hx
            rw [if_neg (by omega)]
            refine ⟨?_, by omega, by omega⟩
            rw [eout a q1 q2, hbl_out (by omega), q3]
            exact h1
          · rw [if_neg q3] at hx
            by_cases q4 : a = eD
            · rw [if_pos q4] at hx
              cases hx
              rw [if_neg (by omega)]
              refine ⟨?_, by omega, by omega⟩
              rw [eout a q1 q2, hbl_out (by omega), q4]
              exact h2
            · rw [if_neg q4] at hx
              cases hx
    · show (if N ≤ N + d ∧ N + d < N + 1138 then _ else _) = _
      rw [if_pos (by omega), Nat.add_sub_cancel_left]
