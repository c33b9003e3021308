/-! the classes of the cells: what the words say of each -/
def xGW : List Cond := lw_tbl.filter goodWord
def xCi (ci : Nat) : vw_C := vwCl.getD ci (RX0, TX0, 3)
def xN (ci : Nat) : Nat := (xFy.getD ci []).length
def xTy (ci k : Nat) : FieldType := (parseFieldDescriptor ((xCi ci).2.1 k).2.2.1).getD .int
theorem xcl_get {ci : Nat} (h : ci < 11) : vwCl[ci]? = some (xCi ci) := by
  have h1 : ci < vwCl.length := h
  rw [List.getElem?_eq_getElem h1]
  simp [xCi, List.getD, List.getElem?_eq_getElem h1]
theorem xcl_N : ∀ ci, ci < 11 → (xCi ci).2.2 = xN ci := by decide +kernel
theorem xcl_ty0 : ∀ ci, ci < 11 → ∀ k, k < xN ci → parseFieldDescriptor ((xCi ci).2.1 k).2.2.1 = some (xTy ci k) := by decide +kernel
theorem xcl_nm : ∀ ci, ci < 11 → ∀ a, a < xN ci → ∀ b, b < xN ci → a ≠ b → ((xCi ci).2.1 a).2.1 ≠ ((xCi ci).2.1 b).2.1 := by decide +kernel
theorem xcl_code : ∀ ci, ci < 11 → ∀ k, k < xN ci → (xft ci k = 0 ∧ xTy ci k = .int ∧ ((xCi ci).2.1 k).2.2.2 = false) ∨ (xft ci k = 1 ∧ xTy ci k = .long ∧ ((xCi ci).2.1 k).2.2.2 = false) ∨ (xft ci k = 2 ∧ refKind (xTy ci k) = true ∧ ((xCi ci).2.1 k).2.2.2 = true ∧ ((xCi ci).2.1 k).1 = (xCi ci).1) ∨ (xft ci k = 3 ∧ xTy ci k = .boolean ∧ ((xCi ci).2.1 k).2.2.2 = false) := by decide +kernel
theorem xcl_own : ∀ c, c < 16 → xci c < 11 → (xCi (xci c)).1 = xR c := by decide +kernel
theorem xcl_new : ((List.range 11).all fun ci => lw_tbl.contains (.instantiable (xCi ci).1 (xN ci)) && goodWord (.instantiable (xCi ci).1 (xN ci)) && lw_tbl.contains (.initialized (xCi ci).1) && goodWord (.initialized (xCi ci).1)) = true := by decide +kernel
theorem xcl_in : ((List.range 11).all fun ci => (u_ws (xCi ci).1 (xCi ci).2.1 (xN ci)).all fun w => lw_tbl.contains w && goodWord w) = true := by decide +kernel
theorem xarr : (lw_tbl.contains (.arrayClass .int) && goodWord (.arrayClass .int) && lw_tbl.contains (.arrayClass .long) && goodWord (.arrayClass .long) && lw_tbl.contains (.arrayClass .boolean) && goodWord (.arrayClass .boolean) && lw_tbl.contains (.arrayOver (.object RX9)) && lw_tbl.contains (.arrayOver (.object RX5)) && lw_tbl.contains (.native arraycopyName) && goodWord (.native arraycopyName) && lw_tbl.contains (.static arraycopyName) && goodWord (.static arraycopyName) && lw_tbl.contains (.initialized "java/lang/System") && goodWord (.initialized "java/lang/System")) = true := by decide +kernel
