/-! a turn, the model's side -/
