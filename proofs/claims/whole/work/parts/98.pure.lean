theorem pure_law : PureLaw := by sorry
