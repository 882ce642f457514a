theorem qo_leastAgain : o_leastAgain qi := sorry
theorem qo_read : o_read qi := sorry
