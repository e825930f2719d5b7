/-! AgreedStore's constructor (printed by wip/whole/gen_cstore.py) -/
theorem yl220_0 : xAt kT220 0 (.aload_n 0) 1 := ⟨1, rfl, Or.inr rfl, rfl⟩
theorem yl220_1 : xAt kT220 1 (.invokespecial 3) 4 := ⟨3, rfl, Or.inr rfl, rfl⟩
theorem yl220_4 : xAt kT220 4 (.aload_n 0) 5 := ⟨1, rfl, Or.inr rfl, rfl⟩
theorem yl220_5 : xAt kT220 5 (.bipush 7) 7 := ⟨2, rfl, Or.inr rfl, rfl⟩
theorem yl220_7 : xAt kT220 7 (.anewarray 9) 10 := ⟨3, rfl, Or.inr rfl, rfl⟩
theorem yl220_10 : xAt kT220 10 (.putfield 11) 13 := ⟨3, rfl, Or.inr rfl, rfl⟩
theorem yl220_13 : xAt kT220 13 (.aload_n 0) 14 := ⟨1, rfl, Or.inr rfl, rfl⟩
theorem yl220_14 : xAt kT220 14 (.bipush 8) 16 := ⟨2, rfl, Or.inr rfl, rfl⟩
theorem yl220_16 : xAt kT220 16 (.anewarray 15) 19 := ⟨3, rfl, Or.inr rfl, rfl⟩
theorem yl220_19 : xAt kT220 19 (.putfield 17) 22 := ⟨3, rfl, Or.inr rfl, rfl⟩
theorem yl220_22 : xAt kT220 22 (.aload_n 0) 23 := ⟨1, rfl, Or.inr rfl, rfl⟩
theorem yl220_23 : xAt kT220 23 (.sipush 400) 26 := ⟨3, rfl, Or.inr rfl, rfl⟩
theorem yl220_26 : xAt kT220 26 (.newarray .byte) 28 := ⟨2, rfl, Or.inr rfl, rfl⟩
theorem yl220_28 : xAt kT220 28 (.putfield 21) 31 := ⟨3, rfl, Or.inr rfl, rfl⟩
theorem yl220_31 : xAt kT220 31 (.aload_n 0) 32 := ⟨1, rfl, Or.inr rfl, rfl⟩
theorem yl220_32 : xAt kT220 32 (.sipush 134) 35 := ⟨3, rfl, Or.inr rfl, rfl⟩
theorem yl220_35 : xAt kT220 35 (.newarray .byte) 37 := ⟨2, rfl, Or.inr rfl, rfl⟩
theorem yl220_37 : xAt kT220 37 (.putfield 25) 40 := ⟨3, rfl, Or.inr rfl, rfl⟩
theorem yl220_40 : xAt kT220 40 (.iconst 1) 41 := ⟨1, rfl, Or.inr rfl, rfl⟩
theorem yl220_41 : xAt kT220 41 (.iconst 1) 42 := ⟨1, rfl, Or.inr rfl, rfl⟩
theorem yl220_42 : xAt kT220 42 (.bipush 7) 44 := ⟨2, rfl, Or.inr rfl, rfl⟩
theorem yl220_44 : xAt kT220 44 (.iload_n 1) 45 := ⟨1, rfl, Or.inr rfl, rfl⟩
theorem yl220_45 : xAt kT220 45 (.invokestatic 28) 48 := ⟨3, rfl, Or.inr rfl, rfl⟩
theorem yl220_48 : xAt kT220 48 (.invokestatic 34) 51 := ⟨3, rfl, Or.inr rfl, rfl⟩
theorem yl220_51 : xAt kT220 51 (.ishl) 52 := ⟨1, rfl, Or.inr rfl, rfl⟩
theorem yl220_52 : xAt kT220 52 (.iconst 1) 53 := ⟨1, rfl, Or.inr rfl, rfl⟩
theorem yl220_53 : xAt kT220 53 (.isub) 54 := ⟨1, rfl, Or.inr rfl, rfl⟩
theorem yl220_54 : xAt kT220 54 (.istore 4) 56 := ⟨2, rfl, Or.inr rfl, rfl⟩
theorem yl220_56 : xAt kT220 56 (.aload_n 0) 57 := ⟨1, rfl, Or.inr rfl, rfl⟩
theorem yl220_57 : xAt kT220 57 (.new 37) 60 := ⟨3, rfl, Or.inr rfl, rfl⟩
theorem yl220_60 : xAt kT220 60 (.dup) 61 := ⟨1, rfl, Or.inr rfl, rfl⟩
theorem yl220_61 : xAt kT220 61 (.lload_n 2) 62 := ⟨1, rfl, Or.inr rfl, rfl⟩
theorem yl220_62 : xAt kT220 62 (.invokespecial 39) 65 := ⟨3, rfl, Or.inr rfl, rfl⟩
theorem yl220_65 : xAt kT220 65 (.putfield 42) 68 := ⟨3, rfl, Or.inr rfl, rfl⟩
theorem yl220_68 : xAt kT220 68 (.aload_n 0) 69 := ⟨1, rfl, Or.inr rfl, rfl⟩
theorem yl220_69 : xAt kT220 69 (.new 46) 72 := ⟨3, rfl, Or.inr rfl, rfl⟩
theorem yl220_72 : xAt kT220 72 (.dup) 73 := ⟨1, rfl, Or.inr rfl, rfl⟩
theorem yl220_73 : xAt kT220 73 (.invokespecial 48) 76 := ⟨3, rfl, Or.inr rfl, rfl⟩
theorem yl220_76 : xAt kT220 76 (.putfield 49) 79 := ⟨3, rfl, Or.inr rfl, rfl⟩
theorem yl220_79 : xAt kT220 79 (.iconst 0) 80 := ⟨1, rfl, Or.inr rfl, rfl⟩
theorem yl220_80 : xAt kT220 80 (.istore 5) 82 := ⟨2, rfl, Or.inr rfl, rfl⟩
theorem yl220_82 : xAt kT220 82 (.iload 5) 84 := ⟨2, rfl, Or.inr rfl, rfl⟩
theorem yl220_84 : xAt kT220 84 (.bipush 7) 86 := ⟨2, rfl, Or.inr rfl, rfl⟩
theorem yl220_86 : xAt kT220 86 (.if_icmp .ge 44) 89 := ⟨3, rfl, Or.inr rfl, rfl⟩
theorem yl220_89 : xAt kT220 89 (.aload_n 0) 90 := ⟨1, rfl, Or.inr rfl, rfl⟩
theorem yl220_90 : xAt kT220 90 (.getfield 11) 93 := ⟨3, rfl, Or.inr rfl, rfl⟩
theorem yl220_93 : xAt kT220 93 (.iload 5) 95 := ⟨2, rfl, Or.inr rfl, rfl⟩
theorem yl220_95 : xAt kT220 95 (.new 9) 98 := ⟨3, rfl, Or.inr rfl, rfl⟩
theorem yl220_98 : xAt kT220 98 (.dup) 99 := ⟨1, rfl, Or.inr rfl, rfl⟩
theorem yl220_99 : xAt kT220 99 (.iload 5) 101 := ⟨2, rfl, Or.inr rfl, rfl⟩
theorem yl220_101 : xAt kT220 101 (.iload 4) 103 := ⟨2, rfl, Or.inr rfl, rfl⟩
theorem yl220_103 : xAt kT220 103 (.aload_n 0) 104 := ⟨1, rfl, Or.inr rfl, rfl⟩
theorem yl220_104 : xAt kT220 104 (.getfield 42) 107 := ⟨3, rfl, Or.inr rfl, rfl⟩
theorem yl220_107 : xAt kT220 107 (.aload_n 0) 108 := ⟨1, rfl, Or.inr rfl, rfl⟩
theorem yl220_108 : xAt kT220 108 (.getfield 49) 111 := ⟨3, rfl, Or.inr rfl, rfl⟩
theorem yl220_111 : xAt kT220 111 (.invokespecial 53) 114 := ⟨3, rfl, Or.inr rfl, rfl⟩
theorem yl220_114 : xAt kT220 114 (.aastore) 115 := ⟨1, rfl, Or.inr rfl, rfl⟩
theorem yl220_115 : xAt kT220 115 (.aload_n 0) 116 := ⟨1, rfl, Or.inr rfl, rfl⟩
theorem yl220_116 : xAt kT220 116 (.getfield 42) 119 := ⟨3, rfl, Or.inr rfl, rfl⟩
theorem yl220_119 : xAt kT220 119 (.iload 5) 121 := ⟨2, rfl, Or.inr rfl, rfl⟩
theorem yl220_121 : xAt kT220 121 (.invokevirtual 56) 124 := ⟨3, rfl, Or.inr rfl, rfl⟩
theorem yl220_124 : xAt kT220 124 (.iinc 5 1) 127 := ⟨3, rfl, Or.inr rfl, rfl⟩
theorem yl220_127 : xAt kT220 127 (.goto (-45)) 130 := ⟨3, rfl, Or.inr rfl, rfl⟩
theorem yl220_130 : xAt kT220 130 (.iconst 0) 131 := ⟨1, rfl, Or.inr rfl, rfl⟩
theorem yl220_131 : xAt kT220 131 (.istore 5) 133 := ⟨2, rfl, Or.inr rfl, rfl⟩
theorem yl220_133 : xAt kT220 133 (.iload 5) 135 := ⟨2, rfl, Or.inr rfl, rfl⟩
theorem yl220_135 : xAt kT220 135 (.bipush 8) 137 := ⟨2, rfl, Or.inr rfl, rfl⟩
theorem yl220_137 : xAt kT220 137 (.if_icmp .ge 36) 140 := ⟨3, rfl, Or.inr rfl, rfl⟩
theorem yl220_140 : xAt kT220 140 (.aload_n 0) 141 := ⟨1, rfl, Or.inr rfl, rfl⟩
theorem yl220_141 : xAt kT220 141 (.getfield 17) 144 := ⟨3, rfl, Or.inr rfl, rfl⟩
theorem yl220_144 : xAt kT220 144 (.iload 5) 146 := ⟨2, rfl, Or.inr rfl, rfl⟩
theorem yl220_146 : xAt kT220 146 (.new 15) 149 := ⟨3, rfl, Or.inr rfl, rfl⟩
theorem yl220_149 : xAt kT220 149 (.dup) 150 := ⟨1, rfl, Or.inr rfl, rfl⟩
theorem yl220_150 : xAt kT220 150 (.bipush 8) 152 := ⟨2, rfl, Or.inr rfl, rfl⟩
theorem yl220_152 : xAt kT220 152 (.iload 5) 154 := ⟨2, rfl, Or.inr rfl, rfl⟩
theorem yl220_154 : xAt kT220 154 (.iadd) 155 := ⟨1, rfl, Or.inr rfl, rfl⟩
theorem yl220_155 : xAt kT220 155 (.aload_n 0) 156 := ⟨1, rfl, Or.inr rfl, rfl⟩
theorem yl220_156 : xAt kT220 156 (.getfield 42) 159 := ⟨3, rfl, Or.inr rfl, rfl⟩
theorem yl220_159 : xAt kT220 159 (.aload_n 0) 160 := ⟨1, rfl, Or.inr rfl, rfl⟩
theorem yl220_160 : xAt kT220 160 (.getfield 49) 163 := ⟨3, rfl, Or.inr rfl, rfl⟩
theorem yl220_163 : xAt kT220 163 (.invokespecial 60) 166 := ⟨3, rfl, Or.inr rfl, rfl⟩
theorem yl220_166 : xAt kT220 166 (.aastore) 167 := ⟨1, rfl, Or.inr rfl, rfl⟩
theorem yl220_167 : xAt kT220 167 (.iinc 5 1) 170 := ⟨3, rfl, Or.inr rfl, rfl⟩
theorem yl220_170 : xAt kT220 170 (.goto (-37)) 173 := ⟨3, rfl, Or.inr rfl, rfl⟩
theorem yl220_173 : xAt kT220 173 (.return_) 174 := ⟨1, rfl, Or.inr rfl, rfl⟩
section CT0
variable {pF : Nat → List Value → xH → Option (Option Value × xH)} {d : Nat} {k : xK} {o nL : Nat} {ini : Bool} {ret : Option FieldType} {rr : Option Value} {hh : xH} {pc np : Nat} {lv : xL} {st : List Value} {G : Nat → xC} {a : Nat} {l : List xC} {H : Nat × Nat}
theorem bE_aastS {i v : Nat} {j : Int32} {x y : xC} (hl : xAt k pc .aastore np) (hx : l[i]? = some x) (ht : x.1 = 25) (hy : l[v]? = some y) (hv : y.1 = 14) (hj : ¬ (j < 0 ∨ x.2.1 ≤ j.toNatClampNeg)) (kk : xR pF d k o nL ini ret rr hh (np, lv, st, (hbl G a (l.set i (x.1, x.2.1, updV x.2.2 j.toNatClampNeg (.ref (a + v)))), H))) :
    xR pF d k o nL ini ret rr hh (pc, lv, .ref (a + v) :: .int j :: .ref (a + i) :: st, (hbl G a l, H)) := by
  have e : hbl G a l (a + i) = x := hbl_in hx
  have e2 : hbl G a l (a + v) = y := hbl_in hy
  have hi := (List.getElem?_eq_some_iff.mp hx).1
  refine xE_m (h' := (hbl G a (l.set i (x.1, x.2.1, updV x.2.2 j.toNatClampNeg (.ref (a + v)))), H)) hl rfl (fun len => by simp [xpure]) ?_ kk
  obtain ⟨len, -, h2, h3⟩ := hl
  obtain rfl : len = 1 := by simp only [xlen] at h2; omega
  subst h3
  simp only [xmem, xast, e, e2, ht, hv, if_neg hj]
  rw [← hbl_set hi]
  simp [ht]
theorem bE_aastC {i v : Nat} {j : Int32} {x y : xC} (hl : xAt k pc .aastore np) (hx : l[i]? = some x) (ht : x.1 = 26) (hy : l[v]? = some y) (hv : y.1 = 6) (hj : ¬ (j < 0 ∨ x.2.1 ≤ j.toNatClampNeg)) (kk : xR pF d k o nL ini ret rr hh (np, lv, st, (hbl G a (l.set i (x.1, x.2.1, updV x.2.2 j.toNatClampNeg (.ref (a + v)))), H))) :
    xR pF d k o nL ini ret rr hh (pc, lv, .ref (a + v) :: .int j :: .ref (a + i) :: st, (hbl G a l, H)) := by
  have e : hbl G a l (a + i) = x := hbl_in hx
  have e2 : hbl G a l (a + v) = y := hbl_in hy
  have hi := (List.getElem?_eq_some_iff.mp hx).1
  refine xE_m (h' := (hbl G a (l.set i (x.1, x.2.1, updV x.2.2 j.toNatClampNeg (.ref (a + v)))), H)) hl rfl (fun len => by simp [xpure]) ?_ kk
  obtain ⟨len, -, h2, h3⟩ := hl
  obtain rfl : len = 1 := by simp only [xlen] at h2; omega
  subst h3
  simp only [xmem, xast, e, e2, ht, hv, if_neg hj]
  rw [← hbl_set hi]
  simp [ht]
end CT0
/-- the mask of the first members -/
def stm (I : Int32) : Int32 := ((1 : Int32) <<< ((cmax 1 (cmin 7 I)) &&& 31)) - 1
def stx (J : Int64) (k : Nat) : Int64 := J + (Int32.ofNat k).toInt64
def stT (J : Int64) : Nat → Nat → Value
  | 0 => bfl (fun _ => .int 0) (-1) 23
  | k + 1 => updV (stT J k) k (.int (dtime 0 (stx J k)))
def stO : Nat → Nat → Value
  | 0 => fun _ => .int 0
  | k + 1 => updV (stO k) k (.int (Int32.ofNat k))
def stS (J : Int64) : Nat → Nat → Value
  | 0 => ldf J 7
  | k + 1 => updV (stS J k) k (.long (ddraw (stx J k)))
def stW (b : Nat) : Nat → xC
  | 0 => (15, (xCl 14).2.2, updV (updV (updV (updV (updV (updV (updV ((ocell 14).2.2) 10 (.ref (b + 1))) 11 (.ref (b + 2))) 12 (.ref (b + 3))) 13 (.ref (b + 4))) 14 (.ref (b + 5))) 15 (.ref (b + 6))) 16 (.ref (b + 7)))
  | k + 1 => ((stW b k).1, (stW b k).2.1, updV (stW b k).2.2 1 (.int (Int32.ofNat k + 1)))
theorem stW_at (b : Nat) : ∀ k, (stW b k).1 = 15 ∧ (stW b k).2.2 10 = .ref (b + 1) ∧ (stW b k).2.2 11 = .ref (b + 2) ∧ (stW b k).2.2 14 = .ref (b + 5) ∧ (stW b k).2.2 1 = .int (Int32.ofNat k) ∧ (stW b k).2.2 0 = .int 0
  | 0 => ⟨rfl, rfl, rfl, rfl, rfl, rfl⟩
  | k + 1 => by
    obtain ⟨h1, h2, h3, h4, -, h6⟩ := stW_at b k
    refine ⟨h1, h2, h3, h4, ?_, h6⟩
    show Value.int (Int32.ofNat k + 1) = _
    rw [← y_add]
    rfl
theorem stS_at (J : Int64) : ∀ k j, k ≤ j → j < 7 → stS J k j = .long (stx J j)
  | 0, j, _, h => by show ldf J 7 j = _; unfold ldf; rw [if_pos h]; rfl
  | k + 1, j, h, h' => by
    show (if j = k then _ else stS J k j) = _
    rw [if_neg (by omega)]
    exact stS_at J k j (by omega) h'
def sgs (b k : Nat) : Nat → Value := fun y => if y < k then .ref (b + (16 + 158 * y)) else .null
def sgc (b k : Nat) : Nat → Value := fun y => if y < k then .ref (b + (1122 + 2 * y)) else .null
theorem sgs_s (b k : Nat) : updV (sgs b k) k (.ref (b + (16 + 158 * k))) = sgs b (k + 1) := by
  funext y
  show (if y = k then _ else if y < k then _ else _) = (if y < k + 1 then _ else _)
  by_cases h : y = k
  · rw [if_pos h, if_pos (by omega), h]
  · rw [if_neg h]
    by_cases h2 : y < k
    · rw [if_pos h2, if_pos (by omega)]
    · rw [if_neg h2, if_neg (by omega)]
theorem sgc_s (b k : Nat) : updV (sgc b k) k (.ref (b + (1122 + 2 * k))) = sgc b (k + 1) := by
  funext y
  show (if y = k then _ else if y < k then _ else _) = (if y < k + 1 then _ else _)
  by_cases h : y = k
  · rw [if_pos h, if_pos (by omega), h]
  · rw [if_neg h]
    by_cases h2 : y < k
    · rw [if_pos h2, if_pos (by omega)]
    · rw [if_neg h2, if_neg (by omega)]
/-- the first sixteen cells of a new AgreedStore at b: ks servers and kc clients set, kd alarms drawn -/
def sthd (b eD : Nat) (J : Int64) (ks kc kd : Nat) : List xC :=
  (16, (xCl 15).2.2, updV (updV (updV (updV (updV (updV ((ocell 15).2.2) 2 (.ref (b + 1))) 3 (.ref (b + 2))) 4 (.ref (b + 3))) 6 (.ref (b + 4))) 0 (.ref (b + 5))) 1 (.ref (b + 13))) ::
  (25, 7, sgs b ks) :: (26, 8, sgc b kc) :: (22, 400, fun _ => .int 0) :: (22, 134, fun _ => .int 0) ::
  stW (b + 5) kd :: (20, 23, stT J kd) :: (20, 23, stO kd) :: (20, 256, bfl (fun _ => .int 0) (3) 256) :: (20, 7, bfl (fun _ => .int 0) (2) 7) :: (21, 7, stS J kd) :: lcell eD :: lcell eD :: c17_F (b + 13)
theorem sthd_len {b eD : Nat} {J : Int64} {ks kc kd : Nat} : (sthd b eD J ks kc kd).length = 16 := rfl
theorem c140_len {b eD : Nat} {l1 l2 : Int32} {l3 l4 : Nat} : (c140_F b eD l1 l2 l3 l4).length = 158 := by
  unfold c140_F
  simp only [List.length_cons, List.length_append, List.length_nil, c40_len] <;> rfl
def srvs (b eD : Nat) (m : Int32) : Nat → List xC
  | 0 => []
  | k + 1 => srvs b eD m k ++ c140_F (b + (16 + 158 * k)) eD (Int32.ofNat k) m (b + 5) (b + 13)
theorem srvs_len {b eD : Nat} {m : Int32} (k : Nat) : (srvs b eD m k).length = 158 * k := by
  induction k with
  | zero => rfl
  | succ k ih => show (srvs b eD m k ++ _).length = _; rw [List.length_append, ih, c140_len]; omega
def clis (b : Nat) : Nat → List xC
  | 0 => []
  | k + 1 => clis b k ++ c26_F (b + (1122 + 2 * k)) ((8 : Int32) + Int32.ofNat k) (b + 5) (b + 13)
theorem clis_len {b : Nat} (k : Nat) : (clis b k).length = 2 * k := by
  induction k with
  | zero => rfl
  | succ k ih => show (clis b k ++ _).length = _; rw [List.length_append, ih]; rfl
/-- the slots behind a new Server -/
def su1 (u : Nat) : Nat := pgu (u + (xCl 13).2.2 + (xCl 6).2.2 + 16 + 16 + 16 + 16 + 16) 30 + (xCl 7).2.2 + 7 + 7 + 7 + 7 + 7 + 7 + 7 + 7 + (xCl 12).2.2 + 32 + 32 + 32 + 32 + 32 + 32 + 32 + (xCl 3).2.2 + 0 + (xCl 9).2.2 + 1800 + 6 + (xCl 10).2.2 + 80 + 1616 + 128 + 128 + 128 + 16896 + 134 + 0
def sus (u : Nat) : Nat → Nat
  | 0 => u
  | k + 1 => su1 (sus u k)
def suc (u : Nat) : Nat → Nat
  | 0 => u
  | k + 1 => suc u k + (xCl 5).2.2 + 134
section CT1
variable {pF : Nat → List Value → xH → Option (Option Value × xH)} {d : Nat} {G : Nat → xC} {b u eD : Nat} {hh : xH} {lv : xL} {J : Int64} {mk : Int32}
theorem st_at {hd l : List xC} {N : Nat} (h : hd.length = N) {l2 : List xC} {x : xC} (hx : l2[0]? = some x) {M : Nat} (hl : l.length = M) : (hd ++ (l ++ l2))[N + M]? = some x := by
  subst h; subst hl
  rw [List.getElem?_append_right (by omega), List.getElem?_append_right (by omega), ← hx]
  congr 1
  omega
set_option maxRecDepth 100000 in
theorem c220_s1 (hB : yB eD pF) (hp0 : xNPc pF) {k : Nat} (hk : k < 7) (g0 : xg lv 0 = some (.ref b)) (g4 : xg lv 4 = some (.int mk)) (g5 : xg lv 5 = some (.int (Int32.ofNat k)))
    (kk : xR pF (d + 6) kT220 15 6 true none none hh (115, lv, [], (hbl G b (sthd b eD J (k + 1) 0 k ++ srvs b eD mk (k + 1)), b + (16 + 158 * (k + 1)), su1 u))) :
    xR pF (d + 6) kT220 15 6 true none none hh (89, lv, [], (hbl G b (sthd b eD J k 0 k ++ srvs b eD mk k), b + (16 + 158 * k), u)) := by
  obtain ⟨n1, n2⟩ := y_ofn (n := k) (by omega)
  have hN : (sthd b eD J k 0 k ++ srvs b eD mk k).length = 16 + 158 * k := by rw [List.length_append, sthd_len, srvs_len]
  refine eE_aload_n yl220_89 g0 ?_
  rw [show (.ref b : Value) = .ref (b + 0) from rfl]
  refine bE_get (i := 0) (ci := 15) (f := 2) (v := .ref (b + 1)) yl220_90 (by decide +kernel) rfl rfl rfl ?_
  refine eE_iload yl220_93 g5 ?_
  refine bE_new (N := 16 + 158 * k) (ci := 13) yl220_95 (by decide +kernel) (by decide +kernel) hN ?_
  refine eE_dup yl220_98 rfl ?_
  refine eE_iload yl220_99 g5 ?_
  refine eE_iload yl220_101 g4 ?_
  refine eE_aload_n yl220_103 g0 ?_
  rw [show (.ref b : Value) = .ref (b + 0) from rfl]
  refine bE_get (i := 0) (ci := 15) (f := 0) (v := .ref (b + 5)) yl220_104 (by decide +kernel) rfl rfl rfl ?_
  refine eE_aload_n yl220_107 g0 ?_
  rw [show (.ref b : Value) = .ref (b + 0) from rfl]
  refine bE_get (i := 0) (ci := 15) (f := 1) (v := .ref (b + 13)) yl220_108 (by decide +kernel) rfl rfl rfl ?_
  refine bE_init (as := [.int (Int32.ofNat k), .int mk, .ref (b + 5), .ref (b + 13)]) (n := 4) (y := 140) (m := 158) (ci := 13) (F := c140_F (b + (16 + 158 * k)) eD (Int32.ofNat k) mk (b + 5) (b + 13)) (u' := su1 u) yl220_111 (Or.inl (by decide +kernel)) (by decide +kernel) rfl rfl (Nat.le_of_ble_eq_true rfl) (by decide +kernel) hN (c140_ok (d := d) hB hp0) ?_
  rw [List.append_assoc]
  refine bE_aastS (i := 1) (v := 16 + 158 * k) (x := (25, 7, sgs b k)) yl220_114 rfl rfl (st_at (l2 := c140_F (b + (16 + 158 * k)) eD (Int32.ofNat k) mk (b + 5) (b + 13)) sthd_len rfl (srvs_len k)) rfl (by rw [n1]; exact fun z => z.elim n2 (fun z => by have : (7 : Nat) ≤ k := z; omega)) ?_
  rw [n1, sgs_s]
  exact kk
set_option maxRecDepth 100000 in
theorem c220_s2 (hp0 : xNPc pF) {k ks : Nat} {R : List xC} {H : Nat × Nat} (hk : k < 7) (g0 : xg lv 0 = some (.ref b)) (g5 : xg lv 5 = some (.int (Int32.ofNat k)))
    (kk : xR pF (d + 6) kT220 15 6 true none none hh (124, lv, [], (hbl G b (sthd b eD J ks 0 (k + 1) ++ R), H))) :
    xR pF (d + 6) kT220 15 6 true none none hh (115, lv, [], (hbl G b (sthd b eD J ks 0 k ++ R), H)) := by
  obtain ⟨w1, w2, w3, w4, w5, w6⟩ := stW_at (b + 5) k
  have hc := b_drawAlarm (pF := pF) (d := d + 4) (G := G) (a := b) (l := sthd b eD J ks 0 k ++ R) (H := H) hp0 (w := 5) (j := k) (W := stW (b + 5) k) (T := stT J k) (O := stO k) (S := stS J k) (nw := 0) (mk := Int32.ofNat k) (x := stx J k) rfl w1 w2 w3 w4 w5 w6 rfl rfl rfl (stS_at J k k (Nat.le_refl _) hk) hk
  refine eE_aload_n yl220_115 g0 ?_
  rw [show (.ref b : Value) = .ref (b + 0) from rfl]
  refine bE_get (i := 0) (ci := 15) (f := 0) (v := .ref (b + 5)) yl220_116 (by decide +kernel) rfl rfl rfl ?_
  refine eE_iload yl220_119 g5 ?_
  refine eE_virt (as := [.int (Int32.ofNat k)]) (r := none) yl220_121 (by decide +kernel) na_188 rfl rfl (Nat.le_of_ble_eq_true rfl) wv_188 ?_ hc ?_
  · have eg : ((hbl G b (sthd b eD J ks 0 k ++ R), H) : xH).1 (b + 5) = stW (b + 5) k := hbl_in rfl
    have key : (xMn 188).cls = (xCl ((((hbl G b (sthd b eD J ks 0 k ++ R), H) : xH).1 (b + 5)).1 - 1)).1 ∧ 0 < (((hbl G b (sthd b eD J ks 0 k ++ R), H) : xH).1 (b + 5)).1 ∧ (((hbl G b (sthd b eD J ks 0 k ++ R), H) : xH).1 (b + 5)).1 ≤ 17 := by
      rw [eg, w1]
      exact ⟨wc_188, Nat.le_of_ble_eq_true rfl, Nat.le_of_ble_eq_true rfl⟩
    exact key
  exact kk
set_option maxRecDepth 100000 in
theorem c220_s3 (hp0 : xNPc pF) {k : Nat} {R : List xC} (hR : R.length = 1106) (hk : k < 8) (g0 : xg lv 0 = some (.ref b)) (g5 : xg lv 5 = some (.int (Int32.ofNat k)))
    (kk : xR pF (d + 6) kT220 15 6 true none none hh (167, lv, [], (hbl G b (sthd b eD J 7 (k + 1) 7 ++ (R ++ clis b (k + 1))), b + (1122 + 2 * (k + 1)), u + (xCl 5).2.2 + 134))) :
    xR pF (d + 6) kT220 15 6 true none none hh (140, lv, [], (hbl G b (sthd b eD J 7 k 7 ++ (R ++ clis b k)), b + (1122 + 2 * k), u)) := by
  obtain ⟨n1, n2⟩ := y_ofn (n := k) (by omega)
  have hN : (sthd b eD J 7 k 7 ++ (R ++ clis b k)).length = 1122 + 2 * k := by rw [List.length_append, List.length_append, sthd_len, hR, clis_len]; omega
  refine eE_aload_n yl220_140 g0 ?_
  rw [show (.ref b : Value) = .ref (b + 0) from rfl]
  refine bE_get (i := 0) (ci := 15) (f := 3) (v := .ref (b + 2)) yl220_141 (by decide +kernel) rfl rfl rfl ?_
  refine eE_iload yl220_144 g5 ?_
  refine bE_new (N := 1122 + 2 * k) (ci := 5) yl220_146 (by decide +kernel) (by decide +kernel) hN ?_
  refine eE_dup yl220_149 rfl ?_
  refine eE_bipush (v := 8) yl220_150 (by decide +kernel) ?_
  refine eE_iload yl220_152 g5 ?_
  refine eE_iadd yl220_154 ?_
  refine eE_aload_n yl220_155 g0 ?_
  rw [show (.ref b : Value) = .ref (b + 0) from rfl]
  refine bE_get (i := 0) (ci := 15) (f := 0) (v := .ref (b + 5)) yl220_156 (by decide +kernel) rfl rfl rfl ?_
  refine eE_aload_n yl220_159 g0 ?_
  rw [show (.ref b : Value) = .ref (b + 0) from rfl]
  refine bE_get (i := 0) (ci := 15) (f := 1) (v := .ref (b + 13)) yl220_160 (by decide +kernel) rfl rfl rfl ?_
  refine bE_init (as := [.int ((8 : Int32) + Int32.ofNat k), .ref (b + 5), .ref (b + 13)]) (n := 3) (y := 26) (m := 2) (ci := 5) (F := c26_F (b + (1122 + 2 * k)) ((8 : Int32) + Int32.ofNat k) (b + 5) (b + 13)) (u' := u + (xCl 5).2.2 + 134) yl220_163 (Or.inl (by decide +kernel)) (by decide +kernel) rfl rfl (Nat.le_of_ble_eq_true rfl) (by decide +kernel) hN (c26_ok (d := d + 5) hp0 _ _ _) ?_
  rw [List.append_assoc, List.append_assoc]
  have hat : (sthd b eD J 7 k 7 ++ (R ++ (clis b k ++ c26_F (b + (1122 + 2 * k)) ((8 : Int32) + Int32.ofNat k) (b + 5) (b + 13))))[1122 + 2 * k]? = (c26_F (b + (1122 + 2 * k)) ((8 : Int32) + Int32.ofNat k) (b + 5) (b + 13))[0]? := by
    rw [List.getElem?_append_right (by rw [sthd_len]; omega), List.getElem?_append_right (by rw [sthd_len, hR]; omega), List.getElem?_append_right (by rw [sthd_len, hR, clis_len]; omega)]
    congr 1
    rw [sthd_len, hR, clis_len]
    omega
  refine bE_aastC (i := 2) (v := 1122 + 2 * k) (x := (26, 8, sgc b k)) yl220_166 rfl rfl hat rfl (by rw [n1]; exact fun z => z.elim n2 (fun z => by have : (8 : Nat) ≤ k := z; omega)) ?_
  rw [n1, sgc_s]
  exact kk
theorem c220_loop2 (hp0 : xNPc pF) {R : List xC} (hR : R.length = 1106) : ∀ m k lv, k + m = 8 → xg lv 0 = some (.ref b) → xg lv 5 = some (.int (Int32.ofNat k)) →
    xR pF (d + 6) kT220 15 6 true none none (hbl G b (sthd b eD J 7 8 7 ++ (R ++ clis b 8)), b + 1138, suc u 8) (133, lv, [], (hbl G b (sthd b eD J 7 k 7 ++ (R ++ clis b k)), b + (1122 + 2 * k), suc u k)) := by
  intro m
  induction m with
  | zero =>
    intro k lv hk g0 g5
    obtain rfl : k = 8 := by omega
    refine eE_iload yl220_133 g5 ?_
    refine eE_bipush (v := 8) yl220_135 (by decide +kernel) ?_
    refine eE_icmp (t := 173) yl220_137 (by decide) (fun _ => ?_) (fun q => absurd (by decide +kernel) q)
    exact eE_end yl220_173 rfl rfl rfl
  | succ m ih =>
    intro k lv hk g0 g5
    refine eE_iload yl220_133 g5 ?_
    refine eE_bipush (v := 8) yl220_135 (by decide +kernel) ?_
    refine eE_icmp (t := 173) yl220_137 (by decide) (fun q => ?_) (fun _ => ?_)
    · have := (y_ge (x := k) (y := 8) (by omega) (by omega)).mp q
      omega
    refine c220_s3 hp0 hR (by omega) g0 g5 ?_
    refine eE_iinc (v := Int32.ofNat (k + 1)) yl220_167 g5 (by rw [← y_add]; rfl) (by decide) rfl ?_
    refine eE_goto (t := 133) yl220_170 (by decide) ?_
    exact ih (k + 1) _ (by omega) (xs1_keep.2 0 _ (by decide) (fun _ => rfl) g0) xs1_keep.1
theorem c220_loop1 (hB : yB eD pF) (hp0 : xNPc pF) : ∀ m k lv, k + m = 7 → xg lv 0 = some (.ref b) → xg lv 4 = some (.int mk) → xg lv 5 = some (.int (Int32.ofNat k)) →
    (∀ lv', xg lv' 0 = some (.ref b) → xR pF (d + 6) kT220 15 6 true none none hh (130, lv', [], (hbl G b (sthd b eD J 7 0 7 ++ srvs b eD mk 7), b + 1122, sus u 7))) →
    xR pF (d + 6) kT220 15 6 true none none hh (82, lv, [], (hbl G b (sthd b eD J k 0 k ++ srvs b eD mk k), b + (16 + 158 * k), sus u k)) := by
  intro m
  induction m with
  | zero =>
    intro k lv hk g0 g4 g5 kk
    obtain rfl : k = 7 := by omega
    refine eE_iload yl220_82 g5 ?_
    refine eE_bipush (v := 7) yl220_84 (by decide +kernel) ?_
    refine eE_icmp (t := 130) yl220_86 (by decide) (fun _ => ?_) (fun q => absurd (by decide +kernel) q)
    exact kk lv g0
  | succ m ih =>
    intro k lv hk g0 g4 g5 kk
    refine eE_iload yl220_82 g5 ?_
    refine eE_bipush (v := 7) yl220_84 (by decide +kernel) ?_
    refine eE_icmp (t := 130) yl220_86 (by decide) (fun q => ?_) (fun _ => ?_)
    · have := (y_ge (x := k) (y := 7) (by omega) (by omega)).mp q
      omega
    refine c220_s1 hB hp0 (by omega) g0 g4 g5 ?_
    refine c220_s2 hp0 (by omega) g0 g5 ?_
    refine eE_iinc (v := Int32.ofNat (k + 1)) yl220_124 g5 (by rw [← y_add]; rfl) (by decide) rfl ?_
    refine eE_goto (t := 82) yl220_127 (by decide) ?_
    exact ih (k + 1) _ (by omega) (xs1_keep.2 0 _ (by decide) (fun _ => rfl) g0) (xs1_keep.2 4 _ (by decide) (fun _ => rfl) g4) xs1_keep.1 kk
/-- the slots behind the first sixteen cells -/
def su0 (u : Nat) : Nat := u + 7 + 8 + 400 + 134 + (xCl 14).2.2 + 23 + 23 + 256 + 7 + 7 + (xCl 3).2.2 + (xCl 3).2.2 + (xCl 4).2.2 + 640 + 2048
/-- the cells of a new AgreedStore at b -/
def c220_F (b eD : Nat) (I : Int32) (J : Int64) : List xC := sthd b eD J 7 8 7 ++ (srvs b eD (stm I) 7 ++ clis b 8)
set_option maxRecDepth 100000 in
theorem c220_p4 {I : Int32} (g0 : xg lv 0 = some (.ref b)) (kk : xR pF (d + 6) kT220 15 6 true none none hh (40, lv, [], (hbl G b [(16, (xCl 15).2.2, updV (updV (updV (updV ((ocell 15).2.2) 2 (.ref (b + 1))) 3 (.ref (b + 2))) 4 (.ref (b + 3))) 6 (.ref (b + 4))), (25, 7, fun _ => .null), (26, 8, fun _ => .null), (22, 400, fun _ => .int 0), (22, 134, fun _ => .int 0)], b + 5, u + 7 + 8 + 400 + 134))) :
    xR pF (d + 6) kT220 15 6 true none none hh (4, lv, [], (hbl G b [ocell 15], b + 1, u)) := by
  refine eE_aload_n yl220_4 g0 ?_
  rw [show (.ref b : Value) = .ref (b + 0) from rfl]
  refine eE_bipush (v := 7) yl220_5 (by decide +kernel) ?_
  refine bE_anew (N := 1) (j := 5) (m := 7) yl220_7 (by decide +kernel) (by decide) ⟨by decide +kernel, by decide +kernel, by decide⟩ rfl ?_
  refine bE_put (i := 0) (ci := 15) (f := 2) (ty := (.array (.object "AgreedStore$Server"))) yl220_10 (by decide +kernel) rfl rfl (by decide +kernel) (Or.inr ⟨rfl, by decide +kernel⟩) (by decide +kernel) rfl ?_
  refine eE_aload_n yl220_13 g0 ?_
  rw [show (.ref b : Value) = .ref (b + 0) from rfl]
  refine eE_bipush (v := 8) yl220_14 (by decide +kernel) ?_
  refine bE_anew (N := 2) (j := 6) (m := 8) yl220_16 (by decide +kernel) (by decide) ⟨by decide +kernel, by decide +kernel, by decide⟩ rfl ?_
  refine bE_put (i := 0) (ci := 15) (f := 3) (ty := (.array (.object "AgreedStore$Client"))) yl220_19 (by decide +kernel) rfl rfl (by decide +kernel) (Or.inr ⟨rfl, by decide +kernel⟩) (by decide +kernel) rfl ?_
  refine eE_aload_n yl220_22 g0 ?_
  rw [show (.ref b : Value) = .ref (b + 0) from rfl]
  refine eE_sipush (v := 400) yl220_23 (by decide +kernel) ?_
  refine bE_newa (N := 3) (j := 2) (m := 400) (dv := .int 0) yl220_26 rfl ⟨by decide +kernel, by decide +kernel, by decide⟩ rfl rfl ?_
  refine bE_put (i := 0) (ci := 15) (f := 4) (ty := (.array .byte)) yl220_28 (by decide +kernel) rfl rfl (by decide +kernel) (Or.inr ⟨rfl, by decide +kernel⟩) (by decide +kernel) rfl ?_
  refine eE_aload_n yl220_31 g0 ?_
  rw [show (.ref b : Value) = .ref (b + 0) from rfl]
  refine eE_sipush (v := 134) yl220_32 (by decide +kernel) ?_
  refine bE_newa (N := 4) (j := 2) (m := 134) (dv := .int 0) yl220_35 rfl ⟨by decide +kernel, by decide +kernel, by decide⟩ rfl rfl ?_
  refine bE_put (i := 0) (ci := 15) (f := 6) (ty := (.array .byte)) yl220_37 (by decide +kernel) rfl rfl (by decide +kernel) (Or.inr ⟨rfl, by decide +kernel⟩) (by decide +kernel) rfl ?_
  exact kk
theorem sgs_0 (b : Nat) : sgs b 0 = fun _ => .null := rfl
theorem sgc_0 (b : Nat) : sgc b 0 = fun _ => .null := rfl
set_option maxRecDepth 100000 in
theorem c220_p56 (hB : yB eD pF) (hp0 : xNPc pF) (g0 : xg lv 0 = some (.ref b)) (g2 : xg lv 2 = some (.long J)) (kk : xR pF (d + 6) kT220 15 6 true none none hh (79, lv, [], (hbl G b (sthd b eD J 0 0 0), b + 16, su0 u))) :
    xR pF (d + 6) kT220 15 6 true none none hh (56, lv, [], (hbl G b [(16, (xCl 15).2.2, updV (updV (updV (updV ((ocell 15).2.2) 2 (.ref (b + 1))) 3 (.ref (b + 2))) 4 (.ref (b + 3))) 6 (.ref (b + 4))), (25, 7, fun _ => .null), (26, 8, fun _ => .null), (22, 400, fun _ => .int 0), (22, 134, fun _ => .int 0)], b + 5, u + 7 + 8 + 400 + 134)) := by
  refine eE_aload_n yl220_56 g0 ?_
  rw [show (.ref b : Value) = .ref (b + 0) from rfl]
  refine bE_new (N := 5) (ci := 14) yl220_57 (by decide +kernel) (by decide +kernel) rfl ?_
  refine eE_dup yl220_60 rfl ?_
  refine eE_lload_n yl220_61 g2 ?_
  refine bE_init (as := [.long J]) (n := 1) (y := 195) (m := 8) (ci := 14) (F := c195_S (b + 5) eD J 7) (u' := u + 7 + 8 + 400 + 134 + (xCl 14).2.2 + 23 + 23 + 256 + 7 + 7 + (xCl 3).2.2 + (xCl 3).2.2) yl220_62 (Or.inl (by decide +kernel)) (by decide +kernel) rfl rfl (Nat.le_of_ble_eq_true rfl) (by decide +kernel) rfl (c195_ok (d := d) hB) ?_
  refine bE_put (i := 0) (ci := 15) (f := 0) (ty := (.object "AgreedStore$World")) yl220_65 (by decide +kernel) rfl rfl (by decide +kernel) (Or.inr ⟨rfl, by decide +kernel⟩) (by decide +kernel) rfl ?_
  refine eE_aload_n yl220_68 g0 ?_
  rw [show (.ref b : Value) = .ref (b + 0) from rfl]
  refine bE_new (N := 13) (ci := 4) yl220_69 (by decide +kernel) (by decide +kernel) rfl ?_
  refine eE_dup yl220_72 rfl ?_
  refine bE_init (as := []) (n := 0) (y := 17) (m := 3) (ci := 4) (F := c17_F (b + 13)) (u' := su0 u) yl220_73 (Or.inr (by decide +kernel)) (by decide +kernel) rfl rfl (Nat.le_of_ble_eq_true rfl) (by decide +kernel) rfl (c17_ok (d := d + 5) hp0) ?_
  refine bE_put (i := 0) (ci := 15) (f := 1) (ty := (.object "AgreedStore$Askings")) yl220_76 (by decide +kernel) rfl rfl (by decide +kernel) (Or.inr ⟨rfl, by decide +kernel⟩) (by decide +kernel) rfl ?_
  exact kk
set_option maxRecDepth 100000 in
theorem c220_ok (hB : yB eD pF) (hp0 : xNPc pF) {I : Int32} : xCo pF (d + 7) 220 [.ref b, .int I, .long J] (hbl G b [ocell 15], b + 1, u) none (hbl G b (c220_F b eD I J), b + 1138, suc (sus (su0 u) 7) 8) := by
  refine xCo_Ri (k := kT220) (o := 15) (ml := 6) (n := 2) (ret := none) rfl rfl (by decide +kernel) (bytes := cX11_init) rfl (Nat.le_of_ble_eq_true rfl) (hp0 220 (by decide) _ _) ?_
  refine eE_aload_n yl220_0 (x := b) rfl ?_
  refine eE_obj yl220_1 (by decide +kernel) (by decide +kernel) (by decide +kernel) (Nat.le_of_ble_eq_true rfl) ?_
  refine c220_p4 (I := I) rfl ?_
  refine eE_iconst (v := 1) yl220_40 (by decide) ?_
  refine eE_iconst (v := 1) yl220_41 (by decide) ?_
  refine eE_bipush (v := 7) yl220_42 (by decide) ?_
  refine eE_iload_n yl220_44 (x := I) rfl ?_
  refine eE_min yl220_45 (by decide +kernel) (Nat.le_of_ble_eq_true rfl) ?_
  refine eE_max yl220_48 (by decide +kernel) (Nat.le_of_ble_eq_true rfl) ?_
  refine eE_ishl yl220_51 ?_
  refine eE_iconst (v := 1) yl220_52 (by decide) ?_
  refine eE_isub yl220_53 ?_
  refine eE_stI (x := stm I) (j := 4) yl220_54 (Or.inl rfl) (by decide) (fun lv1 q1 k1 => ?_)
  have g0 : xg lv1 0 = some (.ref b) := k1 0 _ (by decide) (fun _ => rfl) rfl
  have g2 : xg lv1 2 = some (.long J) := k1 2 _ (by decide) (fun q => absurd q (by decide)) rfl
  refine c220_p56 hB hp0 g0 g2 ?_
  refine eE_iconst (v := 0) yl220_79 (by decide) ?_
  refine eE_stI (j := 5) yl220_80 (Or.inl rfl) (by decide) (fun lv2 q2 k2 => ?_)
  refine c220_loop1 (mk := stm I) (u := su0 u) hB hp0 7 0 lv2 rfl (k2 0 _ (by decide) (fun _ => rfl) g0) (k2 4 _ (by decide) (fun _ => rfl) q1) q2 (fun lv3 g3 => ?_)
  refine eE_iconst (v := 0) yl220_130 (by decide) ?_
  refine eE_stI (j := 5) yl220_131 (Or.inl rfl) (by decide) (fun lv4 q4 k4 => ?_)
  have e := c220_loop2 (d := d) (G := G) (b := b) (eD := eD) (J := J) (u := sus (su0 u) 7) hp0 (R := srvs b eD (stm I) 7) (srvs_len 7) 8 0 lv4 rfl (k4 0 _ (by decide) (fun _ => rfl) g3) q4
  rw [show clis b 0 = [] from rfl, List.append_nil] at e
  unfold c220_F
  exact e
end CT1
