/-! a command, the model's side -/
