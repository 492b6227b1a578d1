theorem opp_route : op_route Rel := by sorry
theorem opp_text : op_text Rel := by sorry
