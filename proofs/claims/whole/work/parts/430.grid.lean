theorem jgrid : jGridRow := by sorry
