/-! the law does not call thrown() -/
