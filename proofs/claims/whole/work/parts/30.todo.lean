theorem qo_read : o_read qi := sorry
