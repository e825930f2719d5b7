/-! what the methods of the class ask of ArrayList and Arrays, they get -/
theorem y_pF (E : CE) : xNPc (pY E.2.2.1) ∧ lcAll E (pY E.2.2.1) ∧ lcF (pY E.2.2.1) :=
  ⟨y_xNPc pY_B.1, y_lcAll pY_B, y_lcF pY_B.1⟩
