theorem qo_leastAgain : o_leastAgain qi := sorry
theorem qo_moveOf : o_moveOf qi := sorry
theorem qo_repair : o_repair qi := sorry
theorem qo_read : o_read qi := sorry
