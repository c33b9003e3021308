/-! all calls -/
theorem ops_all : Ops := sorry
