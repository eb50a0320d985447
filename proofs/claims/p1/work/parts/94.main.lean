theorem z_main : zOK := sorry
