/-! ===== nothing ===== -/
