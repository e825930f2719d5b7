/-! the class's memory behind the constructor (printed by wip/whole/gen_c0.py) -/
def cfoT : List (List Nat) := [[], [], [], [], [0, 0, 1, 2], [0, 0, 0, 0, 0, 0, 0, 0, 0, 0, 0, 0, 1], [1, 2, 3, 4, 5], [1, 2, 3, 4, 5, 6, 7, 8], [], [0, 1, 2], [0, 0, 1, 2, 0, 0, 3, 4, 5, 6, 7, 0, 0, 0, 8], [0, 0, 0, 0, 0, 0, 1, 2, 3], [1, 2, 3, 4, 5, 6, 7], [0, 0, 0, 0, 0, 0, 0, 144, 0, 0, 0, 0, 0, 0, 0, 0, 0, 0, 145], [0, 0, 0, 0, 0, 0, 0, 0, 0, 0, 1, 2, 3, 4, 5, 6, 7], [0, 0, 1, 2, 3, 0, 4]]
def cfo (cl f : Nat) : Nat := (cfoT.getD cl []).getD f 0
/-- where an object lies, with the store at B -/
def cOA (B cl i : Nat) : Nat := if cl = 4 then B + 13 else if cl = 5 then B + (1122 + 2 * i) else if cl = 6 then B + (16 + 158 * i) + 1 else if cl = 7 then B + (16 + 158 * i) + 127 else if cl = 9 then B + (16 + 158 * i) + 146 else if cl = 10 then B + (16 + 158 * i) + 149 else if cl = 11 then B + (16 + 158 * (i / 30)) + 1 + (6 + 4 * (i % 30)) else if cl = 12 then B + (16 + 158 * i) + 136 else if cl = 13 then B + (16 + 158 * i) else if cl = 14 then B + 5 else B
def cAA (B cl i f : Nat) : Nat := cOA B cl i + cfo cl f
def cE0 (B eD : Nat) (X : Nat → Option xC) : CE := (cOA B, cAA B, eD, X)
def vI : Value → Int32
  | .int x => x
  | _ => 0
def vJ : Value → Int64
  | .long x => x
  | _ => 0
/-- the numbers of a new store: m the mask, J the seed -/
def c0I (m : Int32) (J : Int64) (cl i f j : Nat) : Int32 :=
  if cl = 13 then (if f = 0 then Int32.ofNat i else if f = 8 then 1 else if f = 11 then -1 else if f = 13 then -1 else if f = 14 then -1 else if f = 16 then -1 else 0)
  else if cl = 5 then (if f = 0 then (8 : Int32) + Int32.ofNat i else if f = 5 then -1 else if f = 9 then -1 else 0)
  else if cl = 7 then (if f = 10 then -1 else 0)
  else if cl = 9 then (if f = 0 then m else if f = 5 then m else if f = 7 then m else 0)
  else if cl = 6 then (if f = 6 then -1 else if f = 9 then -1 else 0)
  else if cl = 10 then (if f = 6 then Int32.ofNat j else 0)
  else if cl = 14 then (if f = 1 then 7 else if f = 10 then vI (stT J 7 j) else if f = 11 then vI (stO 7 j) else if f = 12 then 3 else if f = 13 then 2 else 0)
  else 0
def c0J (J : Int64) (cl _i f j : Nat) : Int64 := if cl = 14 then (if f = 14 then vJ (stS J 7 j) else 0) else 0
def c0L (cl _i f : Nat) : Nat := if cl = 4 then (if f = 2 then 640 else if f = 3 then 2048 else 0) else 0
def c0 (m : Int32) (J : Int64) (T : Nat × Nat) : CS := (c0I m J, c0J J, c0L, fun _ _ _ => [], fun _ => false, T)
def d16 : List CN := [(0, 15, 0, 0), (1, 15, 0, 2), (1, 15, 0, 3), (1, 15, 0, 4), (1, 15, 0, 6), (0, 14, 0, 0), (1, 14, 0, 10), (1, 14, 0, 11), (1, 14, 0, 12), (1, 14, 0, 13), (1, 14, 0, 14), (2, 14, 0, 15), (2, 14, 0, 16), (0, 4, 0, 0), (1, 4, 0, 2), (1, 4, 0, 3)]
def dD (i : Nat) : List CN := [(0, 6, i, 0), (1, 6, i, 0), (1, 6, i, 1), (1, 6, i, 2), (1, 6, i, 3), (1, 6, i, 4)]
def dS (i : Nat) : List CN := [(0, 7, i, 0), (1, 7, i, 0), (1, 7, i, 1), (1, 7, i, 2), (1, 7, i, 3), (1, 7, i, 4), (1, 7, i, 5), (1, 7, i, 6), (1, 7, i, 7), (0, 12, i, 0), (1, 12, i, 0), (1, 12, i, 1), (1, 12, i, 2), (1, 12, i, 3), (1, 12, i, 4), (1, 12, i, 5), (1, 12, i, 6), (2, 13, i, 7), (1, 13, i, 18), (0, 9, i, 0), (1, 9, i, 1), (1, 9, i, 2), (0, 10, i, 0), (1, 10, i, 2), (1, 10, i, 3), (1, 10, i, 6), (1, 10, i, 7), (1, 10, i, 8), (1, 10, i, 9), (1, 10, i, 10), (1, 10, i, 14)]
def dP (i : Nat) : List CN := [(0, 11, i, 0), (1, 11, i, 6), (1, 11, i, 7), (1, 11, i, 8)]
def dC (i : Nat) : List CN := [(0, 5, i, 0), (1, 5, i, 12)]
def cN9 : CN := (9, 0, 0, 0)
/-- what lies at an offset -/
def cdec (d : Nat) : CN := if d < 16 then d16.getD d cN9 else if d < 1122 then (if (d - 16) % 158 = 0 then (0, 13, (d - 16) / 158, 0) else if (d - 16) % 158 < 7 then (dD ((d - 16) / 158)).getD ((d - 16) % 158 - 1) cN9 else if (d - 16) % 158 < 127 then (dP (30 * ((d - 16) / 158) + ((d - 16) % 158 - 7) / 4)).getD (((d - 16) % 158 - 7) % 4) cN9 else (dS ((d - 16) / 158)).getD ((d - 16) % 158 - 127) cN9) else (dC ((d - 1122) / 2)).getD ((d - 1122) % 2) cN9
theorem cdec_s {i r : Nat} (hi : i < 7) (hr : r < 158) : cdec (16 + 158 * i + r) = (if r = 0 then (0, 13, i, 0) else if r < 7 then (dD i).getD (r - 1) cN9 else if r < 127 then (dP (30 * i + (r - 7) / 4)).getD ((r - 7) % 4) cN9 else (dS i).getD (r - 127) cN9) := by
  unfold cdec
  have e1 : 16 + 158 * i + r - 16 = 158 * i + r := by omega
  have e2 : (158 * i + r) / 158 = i := by omega
  have e3 : (158 * i + r) % 158 = r := by omega
  rw [if_neg (by omega), if_pos (by omega), e1, e2, e3]
theorem cdec_c {i q : Nat} (hi : i < 8) (hq : q < 2) : cdec (1122 + 2 * i + q) = (dC i).getD q cN9 := by
  unfold cdec
  have e1 : 1122 + 2 * i + q - 1122 = 2 * i + q := by omega
  have e2 : (2 * i + q) / 2 = i := by omega
  have e3 : (2 * i + q) % 2 = q := by omega
  rw [if_neg (by omega), if_neg (by omega), e1, e2, e3]
theorem cK_20 {cl f : Nat} (h : 20 ≤ f) : cK cl f = 9 := by
  unfold cK cFt
  have hl : (cTab.getD cl []).length ≤ f := by
    by_cases hc : cl < 16
    · have : ∀ c, c < 16 → (cTab.getD c []).length ≤ 20 := by decide +kernel
      exact Nat.le_trans (this cl hc) h
    · rw [List.getD_eq_getElem?_getD, List.getElem?_eq_none (show cTab.length ≤ cl by show 16 ≤ cl; omega)]
      exact Nat.zero_le _
  rw [List.getD_eq_getElem?_getD, List.getElem?_eq_none hl]
  rfl
theorem c_arrs0 : ((List.range 16).all fun cl => (List.range 20).all fun f => (!(decide (4 ≤ cl) && (!(cl == 8)) && (decide (cK cl f = 2 ∨ cK cl f = 3 ∨ cK cl f = 6)))) || ([(4, 2), (4, 3), (5, 12), (6, 0), (6, 1), (6, 2), (6, 3), (6, 4), (7, 0), (7, 1), (7, 2), (7, 3), (7, 4), (7, 5), (7, 6), (7, 7), (9, 1), (9, 2), (10, 2), (10, 3), (10, 6), (10, 7), (10, 8), (10, 9), (10, 10), (10, 14), (11, 6), (11, 7), (11, 8), (12, 0), (12, 1), (12, 2), (12, 3), (12, 4), (12, 5), (12, 6), (13, 18), (14, 10), (14, 11), (14, 12), (14, 13), (14, 14), (15, 2), (15, 3), (15, 4), (15, 6)] : List (Nat × Nat)).contains (cl, f)) = true := by decide +kernel
theorem c_arrs (cl : Nat) (hcl : cl < 16) (f : Nat) (hf : f < 20) (h : 4 ≤ cl ∧ cl ≠ 8 ∧ (cK cl f = 2 ∨ cK cl f = 3 ∨ cK cl f = 6)) : (cl, f) ∈ ([(4, 2), (4, 3), (5, 12), (6, 0), (6, 1), (6, 2), (6, 3), (6, 4), (7, 0), (7, 1), (7, 2), (7, 3), (7, 4), (7, 5), (7, 6), (7, 7), (9, 1), (9, 2), (10, 2), (10, 3), (10, 6), (10, 7), (10, 8), (10, 9), (10, 10), (10, 14), (11, 6), (11, 7), (11, 8), (12, 0), (12, 1), (12, 2), (12, 3), (12, 4), (12, 5), (12, 6), (13, 18), (14, 10), (14, 11), (14, 12), (14, 13), (14, 14), (15, 2), (15, 3), (15, 4), (15, 6)] : List (Nat × Nat)) := by
  have h1 := List.all_eq_true.mp (List.all_eq_true.mp c_arrs0 cl (List.mem_range.mpr hcl)) f (List.mem_range.mpr hf)
  rcases (Bool.or_eq_true _ _).mp h1 with h2 | h2
  · exfalso
    have : (decide (4 ≤ cl) && (!(cl == 8)) && (decide (cK cl f = 2 ∨ cK cl f = 3 ∨ cK cl f = 6))) = true := by simp [h.1, h.2.1, h.2.2]
    rw [this] at h2
    cases h2
  · exact x_cont h2
theorem c_lists0 : ((List.range 16).all fun cl => (List.range 20).all fun f => (!(decide (4 ≤ cl) && (!(cl == 8)) && (decide (cK cl f = 5)))) || ([(13, 7), (14, 15), (14, 16)] : List (Nat × Nat)).contains (cl, f)) = true := by decide +kernel
theorem c_lists (cl : Nat) (hcl : cl < 16) (f : Nat) (hf : f < 20) (h : 4 ≤ cl ∧ cl ≠ 8 ∧ (cK cl f = 5)) : (cl, f) ∈ ([(13, 7), (14, 15), (14, 16)] : List (Nat × Nat)) := by
  have h1 := List.all_eq_true.mp (List.all_eq_true.mp c_lists0 cl (List.mem_range.mpr hcl)) f (List.mem_range.mpr hf)
  rcases (Bool.or_eq_true _ _).mp h1 with h2 | h2
  · exfalso
    have : (decide (4 ≤ cl) && (!(cl == 8)) && (decide (cK cl f = 5))) = true := by simp [h.1, h.2.1, h.2.2]
    rw [this] at h2
    cases h2
  · exact x_cont h2
theorem c0_dec {B eD : Nat} {X : Nat → Option xC} {m : Int32} {J : Int64} {T : Nat × Nat} {n : CN} (h : clv0 (c0 m J T) n) : ∃ d, d < 1138 ∧ cad (cE0 B eD X) (cAA B) n = B + d ∧ cdec d = n := by
  obtain ⟨k, cl, i, f⟩ := n
  obtain ⟨⟨h4, h15, ho⟩, hk⟩ := h
  dsimp only at h4 h15 ho hk
  have hn8 : cl ≠ 8 := by
    intro e
    rw [e, if_pos rfl] at ho
    cases ho
  rw [if_neg hn8] at ho
  by_cases k0 : k = 0
  · subst k0
    rw [if_pos rfl] at hk
    subst hk
    have e0 : cad (cE0 B eD X) (cAA B) (0, cl, i, 0) = cOA B cl i := by
      show (if (0 : Nat) = 0 then coa _ cl i else _) = _
      rw [if_pos rfl]
      unfold coa
      rw [if_neg hn8]
      rfl
    rw [e0]
    have hcl : cl = 4 ∨ cl = 5 ∨ cl = 6 ∨ cl = 7 ∨ cl = 9 ∨ cl = 10 ∨ cl = 11 ∨ cl = 12 ∨ cl = 13 ∨ cl = 14 ∨ cl = 15 := by omega
    rcases hcl with rfl | rfl | rfl | rfl | rfl | rfl | rfl | rfl | rfl | rfl | rfl
    · have hi : i < 1 := ho
      refine ⟨13, by omega, ?_, (by obtain rfl : i = 0 := (by have : i < 1 := hi; omega); rfl)⟩
      show B + 13 = B + (13)
      omega
    · have hi : i < 8 := ho
      refine ⟨1122 + 2 * i + 0, by omega, ?_, ((cdec_c hi (by omega)).trans rfl)⟩
      show B + (1122 + 2 * i) = B + (1122 + 2 * i + 0)
      omega
    · have hi : i < 7 := ho
      refine ⟨16 + 158 * i + 1, by omega, ?_, ((cdec_s hi (by omega)).trans rfl)⟩
      show B + (16 + 158 * i) + 1 = B + (16 + 158 * i + 1)
      omega
    · have hi : i < 7 := ho
      refine ⟨16 + 158 * i + 127, by omega, ?_, ((cdec_s hi (by omega)).trans rfl)⟩
      show B + (16 + 158 * i) + 127 = B + (16 + 158 * i + 127)
      omega
    · have hi : i < 7 := ho
      refine ⟨16 + 158 * i + 146, by omega, ?_, ((cdec_s hi (by omega)).trans rfl)⟩
      show B + (16 + 158 * i) + 146 = B + (16 + 158 * i + 146)
      omega
    · have hi : i < 7 := ho
      refine ⟨16 + 158 * i + 149, by omega, ?_, ((cdec_s hi (by omega)).trans rfl)⟩
      show B + (16 + 158 * i) + 149 = B + (16 + 158 * i + 149)
      omega
    · have hi : i < 210 := ho
      refine ⟨16 + 158 * (i / 30) + (7 + 4 * (i % 30) + 0), by omega, ?_, (by
      rw [cdec_s (show i / 30 < 7 by have : i < 210 := hi; omega) (by omega), if_neg (by omega), if_neg (by omega), if_pos (by omega), show 30 * (i / 30) + (7 + 4 * (i % 30) + 0 - 7) / 4 = i by omega, show (7 + 4 * (i % 30) + 0 - 7) % 4 = 0 by omega]
      rfl)⟩
      show B + (16 + 158 * (i / 30)) + 1 + (6 + 4 * (i % 30)) = B + (16 + 158 * (i / 30) + (7 + 4 * (i % 30) + 0))
      omega
    · have hi : i < 7 := ho
      refine ⟨16 + 158 * i + 136, by omega, ?_, ((cdec_s hi (by omega)).trans rfl)⟩
      show B + (16 + 158 * i) + 136 = B + (16 + 158 * i + 136)
      omega
    · have hi : i < 7 := ho
      refine ⟨16 + 158 * i + 0, by omega, ?_, ((cdec_s hi (by omega)).trans rfl)⟩
      show B + (16 + 158 * i) = B + (16 + 158 * i + 0)
      omega
    · have hi : i < 1 := ho
      refine ⟨5, by omega, ?_, (by obtain rfl : i = 0 := (by have : i < 1 := hi; omega); rfl)⟩
      show B + 5 = B + (5)
      omega
    · have hi : i < 1 := ho
      refine ⟨0, by omega, ?_, (by obtain rfl : i = 0 := (by have : i < 1 := hi; omega); rfl)⟩
      show B = B + (0)
      omega
  · rw [if_neg k0] at hk
    by_cases k1 : k = 1
    · subst k1
      rw [if_pos rfl] at hk
      have hf : f < 20 := by
        rcases Nat.lt_or_ge f 20 with h | h
        · exact h
        · rw [cK_20 h] at hk; omega
      have hm := c_arrs cl (by omega) f hf ⟨h4, hn8, hk⟩
      have e0 : cad (cE0 B eD X) (cAA B) (1, cl, i, f) = cAA B cl i f := by
        show (if (1 : Nat) = 0 then _ else if (1 : Nat) = 1 then car (cE0 B eD X) (cAA B) cl i f else _) = _
        rw [if_neg (by decide), if_pos rfl]
        unfold car caa
        rw [if_neg hn8]
        split <;> rfl
      rw [e0]
      simp only [List.mem_cons, List.not_mem_nil, or_false, Prod.mk.injEq] at hm
      rcases hm with ⟨rfl, rfl⟩ | ⟨rfl, rfl⟩ | ⟨rfl, rfl⟩ | ⟨rfl, rfl⟩ | ⟨rfl, rfl⟩ | ⟨rfl, rfl⟩ | ⟨rfl, rfl⟩ | ⟨rfl, rfl⟩ | ⟨rfl, rfl⟩ | ⟨rfl, rfl⟩ | ⟨rfl, rfl⟩ | ⟨rfl, rfl⟩ | ⟨rfl, rfl⟩ | ⟨rfl, rfl⟩ | ⟨rfl, rfl⟩ | ⟨rfl, rfl⟩ | ⟨rfl, rfl⟩ | ⟨rfl, rfl⟩ | ⟨rfl, rfl⟩ | ⟨rfl, rfl⟩ | ⟨rfl, rfl⟩ | ⟨rfl, rfl⟩ | ⟨rfl, rfl⟩ | ⟨rfl, rfl⟩ | ⟨rfl, rfl⟩ | ⟨rfl, rfl⟩ | ⟨rfl, rfl⟩ | ⟨rfl, rfl⟩ | ⟨rfl, rfl⟩ | ⟨rfl, rfl⟩ | ⟨rfl, rfl⟩ | ⟨rfl, rfl⟩ | ⟨rfl, rfl⟩ | ⟨rfl, rfl⟩ | ⟨rfl, rfl⟩ | ⟨rfl, rfl⟩ | ⟨rfl, rfl⟩ | ⟨rfl, rfl⟩ | ⟨rfl, rfl⟩ | ⟨rfl, rfl⟩ | ⟨rfl, rfl⟩ | ⟨rfl, rfl⟩ | ⟨rfl, rfl⟩ | ⟨rfl, rfl⟩ | ⟨rfl, rfl⟩ | ⟨rfl, rfl⟩
      · have hi : i < 1 := ho
        refine ⟨14, by omega, ?_, (by obtain rfl : i = 0 := (by have : i < 1 := hi; omega); rfl)⟩
        show B + 13 + 1 = B + (14)
        omega
      · have hi : i < 1 := ho
        refine ⟨15, by omega, ?_, (by obtain rfl : i = 0 := (by have : i < 1 := hi; omega); rfl)⟩
        show B + 13 + 2 = B + (15)
        omega
      · have hi : i < 8 := ho
        refine ⟨1122 + 2 * i + 1, by omega, ?_, ((cdec_c hi (by omega)).trans rfl)⟩
        show B + (1122 + 2 * i) + 1 = B + (1122 + 2 * i + 1)
        omega
      · have hi : i < 7 := ho
        refine ⟨16 + 158 * i + 2, by omega, ?_, ((cdec_s hi (by omega)).trans rfl)⟩
        show B + (16 + 158 * i) + 1 + 1 = B + (16 + 158 * i + 2)
        omega
      · have hi : i < 7 := ho
        refine ⟨16 + 158 * i + 3, by omega, ?_, ((cdec_s hi (by omega)).trans rfl)⟩
        show B + (16 + 158 * i) + 1 + 2 = B + (16 + 158 * i + 3)
        omega
      · have hi : i < 7 := ho
        refine ⟨16 + 158 * i + 4, by omega, ?_, ((cdec_s hi (by omega)).trans rfl)⟩
        show B + (16 + 158 * i) + 1 + 3 = B + (16 + 158 * i + 4)
        omega
      · have hi : i < 7 := ho
        refine ⟨16 + 158 * i + 5, by omega, ?_, ((cdec_s hi (by omega)).trans rfl)⟩
        show B + (16 + 158 * i) + 1 + 4 = B + (16 + 158 * i + 5)
        omega
      · have hi : i < 7 := ho
        refine ⟨16 + 158 * i + 6, by omega, ?_, ((cdec_s hi (by omega)).trans rfl)⟩
        show B + (16 + 158 * i) + 1 + 5 = B + (16 + 158 * i + 6)
        omega
      · have hi : i < 7 := ho
        refine ⟨16 + 158 * i + 128, by omega, ?_, ((cdec_s hi (by omega)).trans rfl)⟩
        show B + (16 + 158 * i) + 127 + 1 = B + (16 + 158 * i + 128)
        omega
      · have hi : i < 7 := ho
        refine ⟨16 + 158 * i + 129, by omega, ?_, ((cdec_s hi (by omega)).trans rfl)⟩
        show B + (16 + 158 * i) + 127 + 2 = B + (16 + 158 * i + 129)
        omega
      · have hi : i < 7 := ho
        refine ⟨16 + 158 * i + 130, by omega, ?_, ((cdec_s hi (by omega)).trans rfl)⟩
        show B + (16 + 158 * i) + 127 + 3 = B + (16 + 158 * i + 130)
        omega
      · have hi : i < 7 := ho
        refine ⟨16 + 158 * i + 131, by omega, ?_, ((cdec_s hi (by omega)).trans rfl)⟩
        show B + (16 + 158 * i) + 127 + 4 = B + (16 + 158 * i + 131)
        omega
      · have hi : i < 7 := ho
        refine ⟨16 + 158 * i + 132, by omega, ?_, ((cdec_s hi (by omega)).trans rfl)⟩
        show B + (16 + 158 * i) + 127 + 5 = B + (16 + 158 * i + 132)
        omega
      · have hi : i < 7 := ho
        refine ⟨16 + 158 * i + 133, by omega, ?_, ((cdec_s hi (by omega)).trans rfl)⟩
        show B + (16 + 158 * i) + 127 + 6 = B + (16 + 158 * i + 133)
        omega
      · have hi : i < 7 := ho
        refine ⟨16 + 158 * i + 134, by omega, ?_, ((cdec_s hi (by omega)).trans rfl)⟩
        show B + (16 + 158 * i) + 127 + 7 = B + (16 + 158 * i + 134)
        omega
      · have hi : i < 7 := ho
        refine ⟨16 + 158 * i + 135, by omega, ?_, ((cdec_s hi (by omega)).trans rfl)⟩
        show B + (16 + 158 * i) + 127 + 8 = B + (16 + 158 * i + 135)
        omega
      · have hi : i < 7 := ho
        refine ⟨16 + 158 * i + 147, by omega, ?_, ((cdec_s hi (by omega)).trans rfl)⟩
        show B + (16 + 158 * i) + 146 + 1 = B + (16 + 158 * i + 147)
        omega
      · have hi : i < 7 := ho
        refine ⟨16 + 158 * i + 148, by omega, ?_, ((cdec_s hi (by omega)).trans rfl)⟩
        show B + (16 + 158 * i) + 146 + 2 = B + (16 + 158 * i + 148)
        omega
      · have hi : i < 7 := ho
        refine ⟨16 + 158 * i + 150, by omega, ?_, ((cdec_s hi (by omega)).trans rfl)⟩
        show B + (16 + 158 * i) + 149 + 1 = B + (16 + 158 * i + 150)
        omega
      · have hi : i < 7 := ho
        refine ⟨16 + 158 * i + 151, by omega, ?_, ((cdec_s hi (by omega)).trans rfl)⟩
        show B + (16 + 158 * i) + 149 + 2 = B + (16 + 158 * i + 151)
        omega
      · have hi : i < 7 := ho
        refine ⟨16 + 158 * i + 152, by omega, ?_, ((cdec_s hi (by omega)).trans rfl)⟩
        show B + (16 + 158 * i) + 149 + 3 = B + (16 + 158 * i + 152)
        omega
      · have hi : i < 7 := ho
        refine ⟨16 + 158 * i + 153, by omega, ?_, ((cdec_s hi (by omega)).trans rfl)⟩
        show B + (16 + 158 * i) + 149 + 4 = B + (16 + 158 * i + 153)
        omega
      · have hi : i < 7 := ho
        refine ⟨16 + 158 * i + 154, by omega, ?_, ((cdec_s hi (by omega)).trans rfl)⟩
        show B + (16 + 158 * i) + 149 + 5 = B + (16 + 158 * i + 154)
        omega
      · have hi : i < 7 := ho
        refine ⟨16 + 158 * i + 155, by omega, ?_, ((cdec_s hi (by omega)).trans rfl)⟩
        show B + (16 + 158 * i) + 149 + 6 = B + (16 + 158 * i + 155)
        omega
      · have hi : i < 7 := ho
        refine ⟨16 + 158 * i + 156, by omega, ?_, ((cdec_s hi (by omega)).trans rfl)⟩
        show B + (16 + 158 * i) + 149 + 7 = B + (16 + 158 * i + 156)
        omega
      · have hi : i < 7 := ho
        refine ⟨16 + 158 * i + 157, by omega, ?_, ((cdec_s hi (by omega)).trans rfl)⟩
        show B + (16 + 158 * i) + 149 + 8 = B + (16 + 158 * i + 157)
        omega
      · have hi : i < 210 := ho
        refine ⟨16 + 158 * (i / 30) + (7 + 4 * (i % 30) + 1), by omega, ?_, (by
      rw [cdec_s (show i / 30 < 7 by have : i < 210 := hi; omega) (by omega), if_neg (by omega), if_neg (by omega), if_pos (by omega), show 30 * (i / 30) + (7 + 4 * (i % 30) + 1 - 7) / 4 = i by omega, show (7 + 4 * (i % 30) + 1 - 7) % 4 = 1 by omega]
      rfl)⟩
        show B + (16 + 158 * (i / 30)) + 1 + (6 + 4 * (i % 30)) + 1 = B + (16 + 158 * (i / 30) + (7 + 4 * (i % 30) + 1))
        omega
      · have hi : i < 210 := ho
        refine ⟨16 + 158 * (i / 30) + (7 + 4 * (i % 30) + 2), by omega, ?_, (by
      rw [cdec_s (show i / 30 < 7 by have : i < 210 := hi; omega) (by omega), if_neg (by omega), if_neg (by omega), if_pos (by omega), show 30 * (i / 30) + (7 + 4 * (i % 30) + 2 - 7) / 4 = i by omega, show (7 + 4 * (i % 30) + 2 - 7) % 4 = 2 by omega]
      rfl)⟩
        show B + (16 + 158 * (i / 30)) + 1 + (6 + 4 * (i % 30)) + 2 = B + (16 + 158 * (i / 30) + (7 + 4 * (i % 30) + 2))
        omega
      · have hi : i < 210 := ho
        refine ⟨16 + 158 * (i / 30) + (7 + 4 * (i % 30) + 3), by omega, ?_, (by
      rw [cdec_s (show i / 30 < 7 by have : i < 210 := hi; omega) (by omega), if_neg (by omega), if_neg (by omega), if_pos (by omega), show 30 * (i / 30) + (7 + 4 * (i % 30) + 3 - 7) / 4 = i by omega, show (7 + 4 * (i % 30) + 3 - 7) % 4 = 3 by omega]
      rfl)⟩
        show B + (16 + 158 * (i / 30)) + 1 + (6 + 4 * (i % 30)) + 3 = B + (16 + 158 * (i / 30) + (7 + 4 * (i % 30) + 3))
        omega
      · have hi : i < 7 := ho
        refine ⟨16 + 158 * i + 137, by omega, ?_, ((cdec_s hi (by omega)).trans rfl)⟩
        show B + (16 + 158 * i) + 136 + 1 = B + (16 + 158 * i + 137)
        omega
      · have hi : i < 7 := ho
        refine ⟨16 + 158 * i + 138, by omega, ?_, ((cdec_s hi (by omega)).trans rfl)⟩
        show B + (16 + 158 * i) + 136 + 2 = B + (16 + 158 * i + 138)
        omega
      · have hi : i < 7 := ho
        refine ⟨16 + 158 * i + 139, by omega, ?_, ((cdec_s hi (by omega)).trans rfl)⟩
        show B + (16 + 158 * i) + 136 + 3 = B + (16 + 158 * i + 139)
        omega
      · have hi : i < 7 := ho
        refine ⟨16 + 158 * i + 140, by omega, ?_, ((cdec_s hi (by omega)).trans rfl)⟩
        show B + (16 + 158 * i) + 136 + 4 = B + (16 + 158 * i + 140)
        omega
      · have hi : i < 7 := ho
        refine ⟨16 + 158 * i + 141, by omega, ?_, ((cdec_s hi (by omega)).trans rfl)⟩
        show B + (16 + 158 * i) + 136 + 5 = B + (16 + 158 * i + 141)
        omega
      · have hi : i < 7 := ho
        refine ⟨16 + 158 * i + 142, by omega, ?_, ((cdec_s hi (by omega)).trans rfl)⟩
        show B + (16 + 158 * i) + 136 + 6 = B + (16 + 158 * i + 142)
        omega
      · have hi : i < 7 := ho
        refine ⟨16 + 158 * i + 143, by omega, ?_, ((cdec_s hi (by omega)).trans rfl)⟩
        show B + (16 + 158 * i) + 136 + 7 = B + (16 + 158 * i + 143)
        omega
      · have hi : i < 7 := ho
        refine ⟨16 + 158 * i + 145, by omega, ?_, ((cdec_s hi (by omega)).trans rfl)⟩
        show B + (16 + 158 * i) + 145 = B + (16 + 158 * i + 145)
        omega
      · have hi : i < 1 := ho
        refine ⟨6, by omega, ?_, (by obtain rfl : i = 0 := (by have : i < 1 := hi; omega); rfl)⟩
        show B + 5 + 1 = B + (6)
        omega
      · have hi : i < 1 := ho
        refine ⟨7, by omega, ?_, (by obtain rfl : i = 0 := (by have : i < 1 := hi; omega); rfl)⟩
        show B + 5 + 2 = B + (7)
        omega
      · have hi : i < 1 := ho
        refine ⟨8, by omega, ?_, (by obtain rfl : i = 0 := (by have : i < 1 := hi; omega); rfl)⟩
        show B + 5 + 3 = B + (8)
        omega
      · have hi : i < 1 := ho
        refine ⟨9, by omega, ?_, (by obtain rfl : i = 0 := (by have : i < 1 := hi; omega); rfl)⟩
        show B + 5 + 4 = B + (9)
        omega
      · have hi : i < 1 := ho
        refine ⟨10, by omega, ?_, (by obtain rfl : i = 0 := (by have : i < 1 := hi; omega); rfl)⟩
        show B + 5 + 5 = B + (10)
        omega
      · have hi : i < 1 := ho
        refine ⟨1, by omega, ?_, (by obtain rfl : i = 0 := (by have : i < 1 := hi; omega); rfl)⟩
        show B + 1 = B + (1)
        omega
      · have hi : i < 1 := ho
        refine ⟨2, by omega, ?_, (by obtain rfl : i = 0 := (by have : i < 1 := hi; omega); rfl)⟩
        show B + 2 = B + (2)
        omega
      · have hi : i < 1 := ho
        refine ⟨3, by omega, ?_, (by obtain rfl : i = 0 := (by have : i < 1 := hi; omega); rfl)⟩
        show B + 3 = B + (3)
        omega
      · have hi : i < 1 := ho
        refine ⟨4, by omega, ?_, (by obtain rfl : i = 0 := (by have : i < 1 := hi; omega); rfl)⟩
        show B + 4 = B + (4)
        omega
    · rw [if_neg k1] at hk
      by_cases k2 : k = 2
      · subst k2
        rw [if_pos rfl] at hk
        have hf : f < 20 := by
          rcases Nat.lt_or_ge f 20 with h | h
          · exact h
          · rw [cK_20 h] at hk; omega
        have hm := c_lists cl (by omega) f hf ⟨h4, hn8, hk⟩
        have e0 : cad (cE0 B eD X) (cAA B) (2, cl, i, f) = cAA B cl i f := by
          show (if (2 : Nat) = 0 then _ else if (2 : Nat) = 1 then _ else if (2 : Nat) = 2 then caa (cE0 B eD X) cl i f else _) = _
          rw [if_neg (by decide), if_neg (by decide), if_pos rfl]
          unfold caa
          rw [if_neg hn8]
          rfl
        rw [e0]
        simp only [List.mem_cons, List.not_mem_nil, or_false, Prod.mk.injEq] at hm
        rcases hm with ⟨rfl, rfl⟩ | ⟨rfl, rfl⟩ | ⟨rfl, rfl⟩
        · have hi : i < 7 := ho
          refine ⟨16 + 158 * i + 144, by omega, ?_, ((cdec_s hi (by omega)).trans rfl)⟩
          show B + (16 + 158 * i) + 144 = B + (16 + 158 * i + 144)
          omega
        · have hi : i < 1 := ho
          refine ⟨11, by omega, ?_, (by obtain rfl : i = 0 := (by have : i < 1 := hi; omega); rfl)⟩
          show B + 5 + 6 = B + (11)
          omega
        · have hi : i < 1 := ho
          refine ⟨12, by omega, ?_, (by obtain rfl : i = 0 := (by have : i < 1 := hi; omega); rfl)⟩
          show B + 5 + 7 = B + (12)
          omega
      · rw [if_neg k2] at hk
        obtain ⟨-, hk5, hkL⟩ := hk
        exfalso
        have hf : f < 20 := by
          rcases Nat.lt_or_ge f 20 with h | h
          · exact h
          · rw [cK_20 h] at hk5; omega
        have hm := c_lists cl (by omega) f hf ⟨h4, hn8, hk5⟩
        simp only [List.mem_cons, List.not_mem_nil, or_false, Prod.mk.injEq] at hm
        rcases hm with ⟨rfl, rfl⟩ | ⟨rfl, rfl⟩ | ⟨rfl, rfl⟩ <;> exact absurd hkL (Nat.lt_irrefl 0)
