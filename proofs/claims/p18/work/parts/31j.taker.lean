/-! 31j: the model's taker -/
def cC_X9_taker : eC := (282, 2, [eRr 85 85, .inl (0, 7)], [], [], some (.inl (-1, 7)), [], [])
theorem kC_X9_taker : eCo mtv eFu cC_X9_taker := sorry
