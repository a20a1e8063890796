theorem zlaw : zLawP := by sorry
