/-! what is left: the pure goal about the two memories (lawP); from it the whole -/
theorem y_xNP {pF : Nat → List Value → xH → Option (Option Value × xH)} (hp : ∀ y as h, y ≠ 389 → y ≠ 7 → y ≠ 9 → pF y as h = none) : xNP pF := fun y h1 h2 as h => hp y as h (by omega) (by omega) (by omega)
/-- what is left: a relation between the two memories that every step of the law keeps, with room -/
def lawP : Prop := ∀ (N L : Nat) (xs : Nat → Int32), L ≤ 3074 → ∃ (Fm : Nat) (σ0 : RS) (J : Nat → CS → RS → Prop), m_init Fm (eI L xs) (eJ L xs) = some σ0 ∧ J 0 (c0 (stm (eI L xs)) (eJ L xs) (N + 1138 + 124, eU)) σ0 ∧
  ∀ n c σ, n < 512 → J n c σ → ∃ c' σ', fStep (fun j => xs (2 + 6 * n + j)) c σ c' σ' ∧ J (n + 1) c' σ' ∧ (cT c').1 - N ≤ 600000 ∧ (cT c').2 - 0 ≤ 7200000
theorem whole_of (hP : lawP) {p : Program} {e : Env} {s : State} {m : MethodId} {below : List Frame} {meth : Method} {c : Code} (l : Launch) (hflags : l.flags = flags0) {b L : Nat} {xs : Nat → Int32} (hL : L ≤ 3074) (C0 : lw_At p s m meth c b L xs) : W p l e room_1 s m #[Value.ref b] below meth c s.heap [] 0 0 (lw_Z below #[Value.ref b] s) (entryFrame m ([Value.ref b] : List Value).toArray 7) := by
  obtain ⟨hx, hb, hr, hml, hown, hts, hX, hbl, hlocks, hgv⟩ := id C0
  obtain ⟨D, dA, eD, mi, hK, heD, hne, hR⟩ := z_start hts hX hbl hgv
  have hl : l.stackTraces = false := by unfold Launch.stackTraces; rw [hflags]; decide
  have hpF := pY_ok (l := l) (G0 := s.heap) (Y := zAll s.heap s.heap.size eD mi) (D := D) (dA := dA) (base := s.heap.size) (eD := eD) (mi := mi) (fun U h => h.1)
  have hYz : ∀ U, zAll s.heap s.heap.size eD mi U → zY s.heap s.heap.size U := fun U h => h.2
  have C : lwC p l s m #[Value.ref b] c s.heap (zAll s.heap s.heap.size eD mi) D dA s.heap.size (pY eD) := ⟨hx, hb, hml, hown, fun w hw => hts w (List.mem_filter.mp hw).1, hK, hpF⟩
  have hB : yB eD (pY eD) := pY_B
  have hp0 : xNPc (pY eD) := y_xNPc hB.1
  have hp1 : xNP (pY eD) := y_xNP hB.1
  have hF : lcF (pY eD) := y_lcF hB.1
  have hLc : ∀ x0 σ, lcAll (lE s.heap.size b L xs (s.heap.size + 1138 + 123) x0 (s.heap.size + 1138) σ eD) (pY eD) := fun x0 σ => (y_pF (lE s.heap.size b L xs (s.heap.size + 1138 + 123) x0 (s.heap.size + 1138) σ eD)).2.1
  obtain ⟨Fm, σ0, J, hm, hJ0, hJ⟩ := hP s.heap.size L xs hL
  obtain ⟨f, hf, hp, hc⟩ := l_mem0 (L := L) (N := s.heap.size) (xs := xs) (I := eI L xs) (J := eJ L xs) (σ0 := σ0) (f0 := fun a => if a = b then (99, L, fun j => .int (xs j)) else if a = eD then (24, 0, fun _ => .null) else (0, 0, fun _ => .null)) hbl heD hne (if_pos rfl) (by rw [if_neg (fun z => hne z.symm), if_pos rfl])
  have hS0 : lwS ((fun a => if a = b then (99, L, fun j => .int (xs j)) else if a = eD then (24, 0, fun _ => .null) else (0, 0, fun _ => .null)), s.heap.size, 0) b L xs := by
    refine ⟨?_, ?_, fun j _ => ?_⟩ <;> simp
  have hent := lv_entry ([.ref b]) (n := 7) (Nat.le_of_ble_eq_true rfl)
  rw [lg_entry_eq]
  generalize (lg_sl ([.ref b]) ++ List.replicate (7 - (lg_sl ([.ref b])).length) Slot.unset).toArray = ls at hent ⊢
  have key := l_entry (e := e) (below := below) (meth := meth) (Q := lw_Z below #[Value.ref b] s) C hB hp0 hp1 hS0 hbl hL hm (fun lv hG => ?_) ls s.heap [] hent hR (fun _ h => absurd h List.not_mem_nil)
  · simp only [Nat.sub_self] at key
    exact key
  · have hE := eU_le
    have q0 : lwR s.heap.size s.heap.size 0 (f, s.heap.size + 1138 + 124, eU) := ⟨by show s.heap.size ≤ s.heap.size + 1138 + 124; omega, by show s.heap.size ≤ s.heap.size + 1138 + 124; omega, Nat.zero_le _, by show s.heap.size + 1138 + 124 - s.heap.size ≤ 600000; omega, by show eU - 0 ≤ 7200000; omega⟩
    have hloop := l_loop (e := e) (below := below) (meth := meth) (Q := lw_Z below #[Value.ref b] s) hl C hYz hp0 hp1 hF hLc hp hL hJ (fun lv h q ls H locs hl1 hR1 hL1 => ?_) 512 0 rfl lv (fun _ => .long 0) σ0 _ _ _ hG hc q0 hJ0
    · intro ls2 H2 locs2 hl2 hR2 hL2
      exact hloop ls2 H2 locs2 hl2 (xRp_eq hR2 hf) hL2
    · refine va_forget hL1 (W.widen (Nat.le_trans q.2.2.2.1 room_c) (Nat.le_trans q.2.2.2.2 room_s) ?_)
      exact lw_ret hx hb hr hlocks (kHo (2154, (.ireturn, 1)) (x_look rfl))
