abbrev F_L_house : zF := (13, cL_house, some .int, 4, [(0, 9, 12, 13)], false)
def T_L_house : List (Nat × zI) := [(0, (4, 2, 0, 0, 1, [])), (1, (0, 0, 0, 0, 2, [])), (2, (4, 0, 0, 0, 3, [])), (3, (2, 1, 0, 0, 4, [])), (7, (10, 0, 0, 0, 8, [])), (8, (25, 0, 0, 0, 9, [])), (9, (15, 0, 0, 0, 15, [])), (12, (7, 3, 0, 0, 13, [])), (13, (0, 0, 0, 1, 14, [])), (14, (27, 0, 0, 0, 15, [])), (15, (0, 0, 0, 0, 16, [])), (16, (27, 0, 0, 0, 17, []))]
set_option maxRecDepth 100000 in
theorem K_L_house : ztbok F_L_house T_L_house := ztbB_ok (by decide +kernel)
set_option maxRecDepth 100000 in
theorem W_L_house : zMth yL_house (.codeWith yL_house cL_house 4 (some .int) [(0, 9, 12, 13)]) 3 := ⟨z_at 541 (by decide +kernel) (by decide +kernel), z_at 0 (by decide +kernel) (by decide +kernel), ⟨by decide +kernel, by decide +kernel⟩, by decide +kernel⟩
set_option maxRecDepth 100000 in
theorem I_L_house : Cond.static yL_house ∈ zws := z_at 540 (by decide +kernel) (by decide +kernel)
abbrev F_L_count : zF := (13, cL_count, some .int, 4, [(0, 9, 12, 18)], false)
def T_L_count : List (Nat × zI) := [(0, (4, 2, 0, 0, 1, [])), (1, (0, 0, 0, 0, 2, [])), (2, (4, 0, 0, 0, 3, [])), (3, (2, 1, 0, 0, 4, [])), (7, (10, 0, 0, 0, 8, [])), (8, (25, 0, 0, 0, 9, [])), (9, (15, 0, 0, 0, 15, [])), (12, (7, 3, 0, 0, 13, [])), (13, (0, 0, 0, 1, 14, [])), (14, (27, 0, 0, 0, 15, [])), (15, (0, 0, 0, 0, 16, [])), (16, (27, 0, 0, 0, 17, []))]
set_option maxRecDepth 100000 in
theorem K_L_count : ztbok F_L_count T_L_count := ztbB_ok (by decide +kernel)
set_option maxRecDepth 100000 in
theorem W_L_count : zMth yL_count (.codeWith yL_count cL_count 4 (some .int) [(0, 9, 12, 18)]) 3 := ⟨z_at 793 (by decide +kernel) (by decide +kernel), z_at 0 (by decide +kernel) (by decide +kernel), ⟨by decide +kernel, by decide +kernel⟩, by decide +kernel⟩
set_option maxRecDepth 100000 in
theorem I_L_count : Cond.static yL_count ∈ zws := z_at 792 (by decide +kernel) (by decide +kernel)
abbrev F_L_room : zF := (13, cL_room, some .int, 5, [(0, 10, 13, 18)], false)
def T_L_room : List (Nat × zI) := [(0, (4, 3, 0, 0, 1, [])), (1, (0, 0, 0, 0, 2, [])), (2, (4, 0, 0, 0, 3, [])), (3, (2, 1, 0, 0, 4, [])), (4, (2, 2, 0, 0, 5, [])), (8, (10, 0, 0, 0, 9, [])), (9, (25, 0, 0, 0, 10, [])), (10, (15, 0, 0, 0, 17, [])), (13, (7, 4, 0, 0, 15, [])), (15, (0, 0, 0, 1, 16, [])), (16, (27, 0, 0, 0, 17, [])), (17, (0, 0, 0, 0, 18, [])), (18, (27, 0, 0, 0, 19, []))]
set_option maxRecDepth 100000 in
theorem K_L_room : ztbok F_L_room T_L_room := ztbB_ok (by decide +kernel)
set_option maxRecDepth 100000 in
theorem W_L_room : zMth yL_room (.codeWith yL_room cL_room 5 (some .int) [(0, 10, 13, 18)]) 4 := ⟨z_at 817 (by decide +kernel) (by decide +kernel), z_at 0 (by decide +kernel) (by decide +kernel), ⟨by decide +kernel, by decide +kernel⟩, by decide +kernel⟩
set_option maxRecDepth 100000 in
theorem I_L_room : Cond.static yL_room ∈ zws := z_at 816 (by decide +kernel) (by decide +kernel)
abbrev F_L_lodger : zF := (13, cL_lodger, some .int, 5, [(0, 10, 13, 18)], false)
def T_L_lodger : List (Nat × zI) := [(0, (4, 3, 0, 0, 1, [])), (1, (0, 0, 0, 0, 2, [])), (2, (4, 0, 0, 0, 3, [])), (3, (2, 1, 0, 0, 4, [])), (4, (2, 2, 0, 0, 5, [])), (8, (10, 0, 0, 0, 9, [])), (9, (25, 0, 0, 0, 10, [])), (10, (15, 0, 0, 0, 17, [])), (13, (7, 4, 0, 0, 15, [])), (15, (0, 0, 0, 1, 16, [])), (16, (27, 0, 0, 0, 17, [])), (17, (0, 0, 0, 0, 18, [])), (18, (27, 0, 0, 0, 19, []))]
set_option maxRecDepth 100000 in
theorem K_L_lodger : ztbok F_L_lodger T_L_lodger := ztbB_ok (by decide +kernel)
set_option maxRecDepth 100000 in
theorem W_L_lodger : zMth yL_lodger (.codeWith yL_lodger cL_lodger 5 (some .int) [(0, 10, 13, 18)]) 4 := ⟨z_at 833 (by decide +kernel) (by decide +kernel), z_at 0 (by decide +kernel) (by decide +kernel), ⟨by decide +kernel, by decide +kernel⟩, by decide +kernel⟩
set_option maxRecDepth 100000 in
theorem I_L_lodger : Cond.static yL_lodger ∈ zws := z_at 832 (by decide +kernel) (by decide +kernel)
abbrev F_L_may : zF := (13, cL_may, some .int, 6, [(0, 12, 15, 18)], false)
def T_L_may : List (Nat × zI) := [(0, (4, 4, 0, 0, 2, [])), (2, (0, 0, 0, 0, 3, [])), (3, (4, 0, 0, 0, 4, [])), (4, (2, 1, 0, 0, 5, [])), (5, (2, 2, 0, 0, 6, [])), (6, (2, 3, 0, 0, 7, [])), (10, (10, 0, 0, 0, 11, [])), (11, (25, 0, 0, 0, 12, [])), (12, (15, 0, 0, 0, 19, [])), (15, (7, 5, 0, 0, 17, [])), (17, (0, 0, 0, 1, 18, [])), (18, (27, 0, 0, 0, 19, [])), (19, (0, 0, 0, 0, 20, [])), (20, (27, 0, 0, 0, 21, []))]
set_option maxRecDepth 100000 in
theorem K_L_may : ztbok F_L_may T_L_may := ztbB_ok (by decide +kernel)
set_option maxRecDepth 100000 in
theorem W_L_may : zMth yL_may (.codeWith yL_may cL_may 6 (some .int) [(0, 12, 15, 18)]) 5 := ⟨z_at 849 (by decide +kernel) (by decide +kernel), z_at 0 (by decide +kernel) (by decide +kernel), ⟨by decide +kernel, by decide +kernel⟩, by decide +kernel⟩
set_option maxRecDepth 100000 in
theorem I_L_may : Cond.static yL_may ∈ zws := z_at 848 (by decide +kernel) (by decide +kernel)
abbrev F_L_says : zF := (13, cL_says, some .int, 5, [(0, 10, 13, 18)], false)
def T_L_says : List (Nat × zI) := [(0, (4, 3, 0, 0, 1, [])), (1, (0, 0, 0, 0, 2, [])), (2, (4, 0, 0, 0, 3, [])), (3, (2, 1, 0, 0, 4, [])), (4, (2, 2, 0, 0, 5, [])), (8, (10, 0, 0, 0, 9, [])), (9, (25, 0, 0, 0, 10, [])), (10, (15, 0, 0, 0, 17, [])), (13, (7, 4, 0, 0, 15, [])), (15, (0, 0, 0, 1, 16, [])), (16, (27, 0, 0, 0, 17, [])), (17, (0, 0, 0, 0, 18, [])), (18, (27, 0, 0, 0, 19, []))]
set_option maxRecDepth 100000 in
theorem K_L_says : ztbok F_L_says T_L_says := ztbB_ok (by decide +kernel)
set_option maxRecDepth 100000 in
theorem W_L_says : zMth yL_says (.codeWith yL_says cL_says 5 (some .int) [(0, 10, 13, 18)]) 4 := ⟨z_at 862 (by decide +kernel) (by decide +kernel), z_at 0 (by decide +kernel) (by decide +kernel), ⟨by decide +kernel, by decide +kernel⟩, by decide +kernel⟩
set_option maxRecDepth 100000 in
theorem I_L_says : Cond.static yL_says ∈ zws := z_at 861 (by decide +kernel) (by decide +kernel)
abbrev F_L_lend : zF := (13, cL_lend, some .int, 6, [(0, 12, 15, 18)], false)
def T_L_lend : List (Nat × zI) := [(0, (4, 4, 0, 0, 2, [])), (2, (0, 0, 0, 0, 3, [])), (3, (4, 0, 0, 0, 4, [])), (4, (2, 1, 0, 0, 5, [])), (5, (2, 2, 0, 0, 6, [])), (6, (2, 3, 0, 0, 7, [])), (10, (10, 0, 0, 0, 11, [])), (11, (25, 0, 0, 0, 12, [])), (12, (15, 0, 0, 0, 19, [])), (15, (7, 5, 0, 0, 17, [])), (17, (0, 0, 0, 1, 18, [])), (18, (27, 0, 0, 0, 19, [])), (19, (0, 0, 0, 0, 20, [])), (20, (27, 0, 0, 0, 21, []))]
set_option maxRecDepth 100000 in
theorem K_L_lend : ztbok F_L_lend T_L_lend := ztbB_ok (by decide +kernel)
set_option maxRecDepth 100000 in
theorem W_L_lend : zMth yL_lend (.codeWith yL_lend cL_lend 6 (some .int) [(0, 12, 15, 18)]) 5 := ⟨z_at 878 (by decide +kernel) (by decide +kernel), z_at 0 (by decide +kernel) (by decide +kernel), ⟨by decide +kernel, by decide +kernel⟩, by decide +kernel⟩
set_option maxRecDepth 100000 in
theorem I_L_lend : Cond.static yL_lend ∈ zws := z_at 877 (by decide +kernel) (by decide +kernel)
abbrev F_L_does : zF := (13, cL_does, some .int, 5, [(0, 10, 13, 18)], false)
def T_L_does : List (Nat × zI) := [(0, (4, 3, 0, 0, 1, [])), (1, (0, 0, 0, 0, 2, [])), (2, (4, 0, 0, 0, 3, [])), (3, (2, 1, 0, 0, 4, [])), (4, (2, 2, 0, 0, 5, [])), (8, (10, 0, 0, 0, 9, [])), (9, (25, 0, 0, 0, 10, [])), (10, (15, 0, 0, 0, 17, [])), (13, (7, 4, 0, 0, 15, [])), (15, (0, 0, 0, 1, 16, [])), (16, (27, 0, 0, 0, 17, [])), (17, (0, 0, 0, 0, 18, [])), (18, (27, 0, 0, 0, 19, []))]
set_option maxRecDepth 100000 in
theorem K_L_does : ztbok F_L_does T_L_does := ztbB_ok (by decide +kernel)
set_option maxRecDepth 100000 in
theorem W_L_does : zMth yL_does (.codeWith yL_does cL_does 5 (some .int) [(0, 10, 13, 18)]) 4 := ⟨z_at 894 (by decide +kernel) (by decide +kernel), z_at 0 (by decide +kernel) (by decide +kernel), ⟨by decide +kernel, by decide +kernel⟩, by decide +kernel⟩
set_option maxRecDepth 100000 in
theorem I_L_does : Cond.static yL_does ∈ zws := z_at 893 (by decide +kernel) (by decide +kernel)
abbrev F_L_sign : zF := (13, cL_sign, some .int, 5, [(0, 10, 13, 18)], false)
def T_L_sign : List (Nat × zI) := [(0, (4, 3, 0, 0, 1, [])), (1, (0, 0, 0, 0, 2, [])), (2, (4, 0, 0, 0, 3, [])), (3, (2, 1, 0, 0, 4, [])), (4, (2, 2, 0, 0, 5, [])), (8, (10, 0, 0, 0, 9, [])), (9, (25, 0, 0, 0, 10, [])), (10, (15, 0, 0, 0, 17, [])), (13, (7, 4, 0, 0, 15, [])), (15, (0, 0, 0, 1, 16, [])), (16, (27, 0, 0, 0, 17, [])), (17, (0, 0, 0, 0, 18, [])), (18, (27, 0, 0, 0, 19, []))]
set_option maxRecDepth 100000 in
theorem K_L_sign : ztbok F_L_sign T_L_sign := ztbB_ok (by decide +kernel)
set_option maxRecDepth 100000 in
theorem W_L_sign : zMth yL_sign (.codeWith yL_sign cL_sign 5 (some .int) [(0, 10, 13, 18)]) 4 := ⟨z_at 905 (by decide +kernel) (by decide +kernel), z_at 0 (by decide +kernel) (by decide +kernel), ⟨by decide +kernel, by decide +kernel⟩, by decide +kernel⟩
set_option maxRecDepth 100000 in
theorem I_L_sign : Cond.static yL_sign ∈ zws := z_at 904 (by decide +kernel) (by decide +kernel)
abbrev F_L_look : zF := (13, cL_look, some .int, 6, [(0, 12, 15, 18)], false)
def T_L_look : List (Nat × zI) := [(0, (4, 4, 0, 0, 2, [])), (2, (0, 0, 0, 0, 3, [])), (3, (4, 0, 0, 0, 4, [])), (4, (2, 1, 0, 0, 5, [])), (5, (2, 2, 0, 0, 6, [])), (6, (2, 3, 0, 0, 7, [])), (10, (10, 0, 0, 0, 11, [])), (11, (25, 0, 0, 0, 12, [])), (12, (15, 0, 0, 0, 19, [])), (15, (7, 5, 0, 0, 17, [])), (17, (0, 0, 0, 1, 18, [])), (18, (27, 0, 0, 0, 19, [])), (19, (0, 0, 0, 0, 20, [])), (20, (27, 0, 0, 0, 21, []))]
set_option maxRecDepth 100000 in
theorem K_L_look : ztbok F_L_look T_L_look := ztbB_ok (by decide +kernel)
set_option maxRecDepth 100000 in
theorem W_L_look : zMth yL_look (.codeWith yL_look cL_look 6 (some .int) [(0, 12, 15, 18)]) 5 := ⟨z_at 918 (by decide +kernel) (by decide +kernel), z_at 0 (by decide +kernel) (by decide +kernel), ⟨by decide +kernel, by decide +kernel⟩, by decide +kernel⟩
set_option maxRecDepth 100000 in
theorem I_L_look : Cond.static yL_look ∈ zws := z_at 917 (by decide +kernel) (by decide +kernel)
abbrev F_L_theft : zF := (13, cL_theft, some .int, 5, [(0, 10, 13, 18)], false)
def T_L_theft : List (Nat × zI) := [(0, (4, 3, 0, 0, 1, [])), (1, (0, 0, 0, 0, 2, [])), (2, (4, 0, 0, 0, 3, [])), (3, (2, 1, 0, 0, 4, [])), (4, (2, 2, 0, 0, 5, [])), (8, (10, 0, 0, 0, 9, [])), (9, (25, 0, 0, 0, 10, [])), (10, (15, 0, 0, 0, 17, [])), (13, (7, 4, 0, 0, 15, [])), (15, (0, 0, 0, 1, 16, [])), (16, (27, 0, 0, 0, 17, [])), (17, (0, 0, 0, 0, 18, [])), (18, (27, 0, 0, 0, 19, []))]
set_option maxRecDepth 100000 in
theorem K_L_theft : ztbok F_L_theft T_L_theft := ztbB_ok (by decide +kernel)
set_option maxRecDepth 100000 in
theorem W_L_theft : zMth yL_theft (.codeWith yL_theft cL_theft 5 (some .int) [(0, 10, 13, 18)]) 4 := ⟨z_at 925 (by decide +kernel) (by decide +kernel), z_at 0 (by decide +kernel) (by decide +kernel), ⟨by decide +kernel, by decide +kernel⟩, by decide +kernel⟩
set_option maxRecDepth 100000 in
theorem I_L_theft : Cond.static yL_theft ∈ zws := z_at 924 (by decide +kernel) (by decide +kernel)
abbrev F_L_see : zF := (13, cL_see, some .int, 6, [(0, 12, 15, 18)], false)
def T_L_see : List (Nat × zI) := [(0, (4, 4, 0, 0, 2, [])), (2, (0, 0, 0, 0, 3, [])), (3, (4, 0, 0, 0, 4, [])), (4, (2, 1, 0, 0, 5, [])), (5, (2, 2, 0, 0, 6, [])), (6, (2, 3, 0, 0, 7, [])), (10, (10, 0, 0, 0, 11, [])), (11, (25, 0, 0, 0, 12, [])), (12, (15, 0, 0, 0, 19, [])), (15, (7, 5, 0, 0, 17, [])), (17, (0, 0, 0, 1, 18, [])), (18, (27, 0, 0, 0, 19, [])), (19, (0, 0, 0, 0, 20, [])), (20, (27, 0, 0, 0, 21, []))]
set_option maxRecDepth 100000 in
theorem K_L_see : ztbok F_L_see T_L_see := ztbB_ok (by decide +kernel)
set_option maxRecDepth 100000 in
theorem W_L_see : zMth yL_see (.codeWith yL_see cL_see 6 (some .int) [(0, 12, 15, 18)]) 5 := ⟨z_at 940 (by decide +kernel) (by decide +kernel), z_at 0 (by decide +kernel) (by decide +kernel), ⟨by decide +kernel, by decide +kernel⟩, by decide +kernel⟩
set_option maxRecDepth 100000 in
theorem I_L_see : Cond.static yL_see ∈ zws := z_at 939 (by decide +kernel) (by decide +kernel)
abbrev F_L_inCase : zF := (13, cL_inCase, some .int, 5, [(0, 10, 13, 18)], false)
def T_L_inCase : List (Nat × zI) := [(0, (4, 3, 0, 0, 1, [])), (1, (0, 0, 0, 0, 2, [])), (2, (4, 0, 0, 0, 3, [])), (3, (2, 1, 0, 0, 4, [])), (4, (2, 2, 0, 0, 5, [])), (8, (10, 0, 0, 0, 9, [])), (9, (25, 0, 0, 0, 10, [])), (10, (15, 0, 0, 0, 17, [])), (13, (7, 4, 0, 0, 15, [])), (15, (0, 0, 0, 1, 16, [])), (16, (27, 0, 0, 0, 17, [])), (17, (0, 0, 0, 0, 18, [])), (18, (27, 0, 0, 0, 19, []))]
set_option maxRecDepth 100000 in
theorem K_L_inCase : ztbok F_L_inCase T_L_inCase := ztbB_ok (by decide +kernel)
set_option maxRecDepth 100000 in
theorem W_L_inCase : zMth yL_inCase (.codeWith yL_inCase cL_inCase 5 (some .int) [(0, 10, 13, 18)]) 4 := ⟨z_at 955 (by decide +kernel) (by decide +kernel), z_at 0 (by decide +kernel) (by decide +kernel), ⟨by decide +kernel, by decide +kernel⟩, by decide +kernel⟩
set_option maxRecDepth 100000 in
theorem I_L_inCase : Cond.static yL_inCase ∈ zws := z_at 954 (by decide +kernel) (by decide +kernel)
abbrev F_L_sure : zF := (13, cL_sure, some .int, 4, [(0, 9, 12, 18)], false)
def T_L_sure : List (Nat × zI) := [(0, (4, 2, 0, 0, 1, [])), (1, (0, 0, 0, 0, 2, [])), (2, (4, 0, 0, 0, 3, [])), (3, (2, 1, 0, 0, 4, [])), (7, (10, 0, 0, 0, 8, [])), (8, (25, 0, 0, 0, 9, [])), (9, (15, 0, 0, 0, 15, [])), (12, (7, 3, 0, 0, 13, [])), (13, (0, 0, 0, 1, 14, [])), (14, (27, 0, 0, 0, 15, [])), (15, (0, 0, 0, 0, 16, [])), (16, (27, 0, 0, 0, 17, []))]
set_option maxRecDepth 100000 in
theorem K_L_sure : ztbok F_L_sure T_L_sure := ztbB_ok (by decide +kernel)
set_option maxRecDepth 100000 in
theorem W_L_sure : zMth yL_sure (.codeWith yL_sure cL_sure 4 (some .int) [(0, 9, 12, 18)]) 3 := ⟨z_at 967 (by decide +kernel) (by decide +kernel), z_at 0 (by decide +kernel) (by decide +kernel), ⟨by decide +kernel, by decide +kernel⟩, by decide +kernel⟩
set_option maxRecDepth 100000 in
theorem I_L_sure : Cond.static yL_sure ∈ zws := z_at 966 (by decide +kernel) (by decide +kernel)
abbrev F_L_where : zF := (13, cL_where, some .int, 4, [(0, 9, 12, 18)], false)
def T_L_where : List (Nat × zI) := [(0, (4, 2, 0, 0, 1, [])), (1, (0, 0, 0, 0, 2, [])), (2, (4, 0, 0, 0, 3, [])), (3, (2, 1, 0, 0, 4, [])), (7, (10, 0, 0, 0, 8, [])), (8, (25, 0, 0, 0, 9, [])), (9, (15, 0, 0, 0, 15, [])), (12, (7, 3, 0, 0, 13, [])), (13, (0, 0, 0, 1, 14, [])), (14, (27, 0, 0, 0, 15, [])), (15, (0, 0, 0, 0, 16, [])), (16, (27, 0, 0, 0, 17, []))]
set_option maxRecDepth 100000 in
theorem K_L_where : ztbok F_L_where T_L_where := ztbB_ok (by decide +kernel)
set_option maxRecDepth 100000 in
theorem W_L_where : zMth yL_where (.codeWith yL_where cL_where 4 (some .int) [(0, 9, 12, 18)]) 3 := ⟨z_at 997 (by decide +kernel) (by decide +kernel), z_at 0 (by decide +kernel) (by decide +kernel), ⟨by decide +kernel, by decide +kernel⟩, by decide +kernel⟩
set_option maxRecDepth 100000 in
theorem I_L_where : Cond.static yL_where ∈ zws := z_at 996 (by decide +kernel) (by decide +kernel)
abbrev F_L_misled : zF := (13, cL_misled, some .int, 6, [(0, 12, 15, 18)], false)
def T_L_misled : List (Nat × zI) := [(0, (4, 4, 0, 0, 2, [])), (2, (0, 0, 0, 0, 3, [])), (3, (4, 0, 0, 0, 4, [])), (4, (2, 1, 0, 0, 5, [])), (5, (2, 2, 0, 0, 6, [])), (6, (2, 3, 0, 0, 7, [])), (10, (10, 0, 0, 0, 11, [])), (11, (25, 0, 0, 0, 12, [])), (12, (15, 0, 0, 0, 19, [])), (15, (7, 5, 0, 0, 17, [])), (17, (0, 0, 0, 1, 18, [])), (18, (27, 0, 0, 0, 19, [])), (19, (0, 0, 0, 0, 20, [])), (20, (27, 0, 0, 0, 21, []))]
set_option maxRecDepth 100000 in
theorem K_L_misled : ztbok F_L_misled T_L_misled := ztbB_ok (by decide +kernel)
set_option maxRecDepth 100000 in
theorem W_L_misled : zMth yL_misled (.codeWith yL_misled cL_misled 6 (some .int) [(0, 12, 15, 18)]) 5 := ⟨z_at 1008 (by decide +kernel) (by decide +kernel), z_at 0 (by decide +kernel) (by decide +kernel), ⟨by decide +kernel, by decide +kernel⟩, by decide +kernel⟩
set_option maxRecDepth 100000 in
theorem I_L_misled : Cond.static yL_misled ∈ zws := z_at 1007 (by decide +kernel) (by decide +kernel)
abbrev F_L_chance : zF := (13, cL_chance, some .int, 5, [(0, 10, 13, 18)], false)
def T_L_chance : List (Nat × zI) := [(0, (4, 3, 0, 0, 1, [])), (1, (0, 0, 0, 0, 2, [])), (2, (4, 0, 0, 0, 3, [])), (3, (2, 1, 0, 0, 4, [])), (4, (2, 2, 0, 0, 5, [])), (8, (10, 0, 0, 0, 9, [])), (9, (25, 0, 0, 0, 10, [])), (10, (15, 0, 0, 0, 17, [])), (13, (7, 4, 0, 0, 15, [])), (15, (0, 0, 0, 1, 16, [])), (16, (27, 0, 0, 0, 17, [])), (17, (0, 0, 0, 0, 18, [])), (18, (27, 0, 0, 0, 19, []))]
set_option maxRecDepth 100000 in
theorem K_L_chance : ztbok F_L_chance T_L_chance := ztbB_ok (by decide +kernel)
set_option maxRecDepth 100000 in
theorem W_L_chance : zMth yL_chance (.codeWith yL_chance cL_chance 5 (some .int) [(0, 10, 13, 18)]) 4 := ⟨z_at 1033 (by decide +kernel) (by decide +kernel), z_at 0 (by decide +kernel) (by decide +kernel), ⟨by decide +kernel, by decide +kernel⟩, by decide +kernel⟩
set_option maxRecDepth 100000 in
theorem I_L_chance : Cond.static yL_chance ∈ zws := z_at 1032 (by decide +kernel) (by decide +kernel)
abbrev F_L_round : zF := (13, cL_round, some .int, 6, [(0, 12, 15, 18), (0, 12, 19, 13)], false)
def T_L_round : List (Nat × zI) := [(0, (4, 4, 0, 0, 2, [])), (2, (0, 0, 0, 0, 3, [])), (3, (4, 0, 0, 0, 4, [])), (4, (2, 1, 0, 0, 5, [])), (5, (2, 2, 0, 0, 6, [])), (6, (2, 3, 0, 0, 7, [])), (10, (10, 0, 0, 0, 11, [])), (11, (25, 0, 0, 0, 12, [])), (12, (15, 0, 0, 0, 23, [])), (15, (7, 5, 0, 0, 17, [])), (17, (0, 0, 0, 1, 18, [])), (18, (27, 0, 0, 0, 19, [])), (19, (7, 5, 0, 0, 21, [])), (21, (0, 0, 0, 2, 22, [])), (22, (27, 0, 0, 0, 23, [])), (23, (0, 0, 0, 0, 24, [])), (24, (27, 0, 0, 0, 25, []))]
set_option maxRecDepth 100000 in
theorem K_L_round : ztbok F_L_round T_L_round := ztbB_ok (by decide +kernel)
set_option maxRecDepth 100000 in
theorem W_L_round : zMth yL_round (.codeWith yL_round cL_round 6 (some .int) [(0, 12, 15, 18), (0, 12, 19, 13)]) 5 := ⟨z_at 1046 (by decide +kernel) (by decide +kernel), z_at 0 (by decide +kernel) (by decide +kernel), ⟨by decide +kernel, by decide +kernel⟩, by decide +kernel⟩
set_option maxRecDepth 100000 in
theorem I_L_round : Cond.static yL_round ∈ zws := z_at 1045 (by decide +kernel) (by decide +kernel)
abbrev F_L_path : zF := (13, cL_path, some .int, 5, [(0, 10, 13, 18)], false)
def T_L_path : List (Nat × zI) := [(0, (4, 3, 0, 0, 1, [])), (1, (0, 0, 0, 0, 2, [])), (2, (4, 0, 0, 0, 3, [])), (3, (2, 1, 0, 0, 4, [])), (4, (2, 2, 0, 0, 5, [])), (8, (10, 0, 0, 0, 9, [])), (9, (25, 0, 0, 0, 10, [])), (10, (15, 0, 0, 0, 17, [])), (13, (7, 4, 0, 0, 15, [])), (15, (0, 0, 0, 1, 16, [])), (16, (27, 0, 0, 0, 17, [])), (17, (0, 0, 0, 0, 18, [])), (18, (27, 0, 0, 0, 19, []))]
set_option maxRecDepth 100000 in
theorem K_L_path : ztbok F_L_path T_L_path := ztbB_ok (by decide +kernel)
set_option maxRecDepth 100000 in
theorem W_L_path : zMth yL_path (.codeWith yL_path cL_path 5 (some .int) [(0, 10, 13, 18)]) 4 := ⟨z_at 1087 (by decide +kernel) (by decide +kernel), z_at 0 (by decide +kernel) (by decide +kernel), ⟨by decide +kernel, by decide +kernel⟩, by decide +kernel⟩
set_option maxRecDepth 100000 in
theorem I_L_path : Cond.static yL_path ∈ zws := z_at 1086 (by decide +kernel) (by decide +kernel)
abbrev F_L_rests : zF := (13, cL_rests, some .int, 6, [(0, 12, 15, 18), (0, 12, 19, 13)], false)
def T_L_rests : List (Nat × zI) := [(0, (4, 4, 0, 0, 2, [])), (2, (0, 0, 0, 0, 3, [])), (3, (4, 0, 0, 0, 4, [])), (4, (2, 1, 0, 0, 5, [])), (5, (2, 2, 0, 0, 6, [])), (6, (2, 3, 0, 0, 7, [])), (10, (10, 0, 0, 0, 11, [])), (11, (25, 0, 0, 0, 12, [])), (12, (15, 0, 0, 0, 23, [])), (15, (7, 5, 0, 0, 17, [])), (17, (0, 0, 0, 1, 18, [])), (18, (27, 0, 0, 0, 19, [])), (19, (7, 5, 0, 0, 21, [])), (21, (0, 0, 0, 2, 22, [])), (22, (27, 0, 0, 0, 23, [])), (23, (0, 0, 0, 0, 24, [])), (24, (27, 0, 0, 0, 25, []))]
set_option maxRecDepth 100000 in
theorem K_L_rests : ztbok F_L_rests T_L_rests := ztbB_ok (by decide +kernel)
set_option maxRecDepth 100000 in
theorem W_L_rests : zMth yL_rests (.codeWith yL_rests cL_rests 6 (some .int) [(0, 12, 15, 18), (0, 12, 19, 13)]) 5 := ⟨z_at 1094 (by decide +kernel) (by decide +kernel), z_at 0 (by decide +kernel) (by decide +kernel), ⟨by decide +kernel, by decide +kernel⟩, by decide +kernel⟩
set_option maxRecDepth 100000 in
theorem I_L_rests : Cond.static yL_rests ∈ zws := z_at 1093 (by decide +kernel) (by decide +kernel)
abbrev F_L_fewest : zF := (13, cL_fewest, some .int, 5, [(0, 10, 13, 13)], false)
def T_L_fewest : List (Nat × zI) := [(0, (4, 3, 0, 0, 1, [])), (1, (0, 0, 0, 0, 2, [])), (2, (4, 0, 0, 0, 3, [])), (3, (2, 1, 0, 0, 4, [])), (4, (2, 2, 0, 0, 5, [])), (8, (10, 0, 0, 0, 9, [])), (9, (25, 0, 0, 0, 10, [])), (10, (15, 0, 0, 0, 17, [])), (13, (7, 4, 0, 0, 15, [])), (15, (0, 0, 0, 1, 16, [])), (16, (27, 0, 0, 0, 17, [])), (17, (0, 0, 0, 0, 18, [])), (18, (27, 0, 0, 0, 19, []))]
set_option maxRecDepth 100000 in
theorem K_L_fewest : ztbok F_L_fewest T_L_fewest := ztbB_ok (by decide +kernel)
set_option maxRecDepth 100000 in
theorem W_L_fewest : zMth yL_fewest (.codeWith yL_fewest cL_fewest 5 (some .int) [(0, 10, 13, 13)]) 4 := ⟨z_at 1122 (by decide +kernel) (by decide +kernel), z_at 0 (by decide +kernel) (by decide +kernel), ⟨by decide +kernel, by decide +kernel⟩, by decide +kernel⟩
set_option maxRecDepth 100000 in
theorem I_L_fewest : Cond.static yL_fewest ∈ zws := z_at 1121 (by decide +kernel) (by decide +kernel)
abbrev F_L_lender : zF := (13, cL_lender, some .int, 4, [(0, 9, 12, 18)], false)
def T_L_lender : List (Nat × zI) := [(0, (4, 2, 0, 0, 1, [])), (1, (0, 0, 0, 0, 2, [])), (2, (4, 0, 0, 0, 3, [])), (3, (2, 1, 0, 0, 4, [])), (7, (10, 0, 0, 0, 8, [])), (8, (25, 0, 0, 0, 9, [])), (9, (15, 0, 0, 0, 15, [])), (12, (7, 3, 0, 0, 13, [])), (13, (0, 0, 0, 1, 14, [])), (14, (27, 0, 0, 0, 15, [])), (15, (0, 0, 0, 0, 16, [])), (16, (27, 0, 0, 0, 17, []))]
set_option maxRecDepth 100000 in
theorem K_L_lender : ztbok F_L_lender T_L_lender := ztbB_ok (by decide +kernel)
set_option maxRecDepth 100000 in
theorem W_L_lender : zMth yL_lender (.codeWith yL_lender cL_lender 4 (some .int) [(0, 9, 12, 18)]) 3 := ⟨z_at 1169 (by decide +kernel) (by decide +kernel), z_at 0 (by decide +kernel) (by decide +kernel), ⟨by decide +kernel, by decide +kernel⟩, by decide +kernel⟩
set_option maxRecDepth 100000 in
theorem I_L_lender : Cond.static yL_lender ∈ zws := z_at 1168 (by decide +kernel) (by decide +kernel)
abbrev F_L_kinds : zF := (13, cL_kinds, some .int, 5, [(0, 10, 13, 13)], false)
def T_L_kinds : List (Nat × zI) := [(0, (4, 3, 0, 0, 1, [])), (1, (0, 0, 0, 0, 2, [])), (2, (4, 0, 0, 0, 3, [])), (3, (2, 1, 0, 0, 4, [])), (4, (2, 2, 0, 0, 5, [])), (8, (10, 0, 0, 0, 9, [])), (9, (25, 0, 0, 0, 10, [])), (10, (15, 0, 0, 0, 17, [])), (13, (7, 4, 0, 0, 15, [])), (15, (0, 0, 0, 1, 16, [])), (16, (27, 0, 0, 0, 17, [])), (17, (0, 0, 0, 0, 18, [])), (18, (27, 0, 0, 0, 19, []))]
set_option maxRecDepth 100000 in
theorem K_L_kinds : ztbok F_L_kinds T_L_kinds := ztbB_ok (by decide +kernel)
set_option maxRecDepth 100000 in
theorem W_L_kinds : zMth yL_kinds (.codeWith yL_kinds cL_kinds 5 (some .int) [(0, 10, 13, 13)]) 4 := ⟨z_at 1177 (by decide +kernel) (by decide +kernel), z_at 0 (by decide +kernel) (by decide +kernel), ⟨by decide +kernel, by decide +kernel⟩, by decide +kernel⟩
set_option maxRecDepth 100000 in
theorem I_L_kinds : Cond.static yL_kinds ∈ zws := z_at 1176 (by decide +kernel) (by decide +kernel)
abbrev F_L_word : zF := (13, cL_word, some .int, 5, [(0, 10, 13, 18), (0, 10, 17, 13)], false)
def T_L_word : List (Nat × zI) := [(0, (4, 3, 0, 0, 1, [])), (1, (0, 0, 0, 0, 2, [])), (2, (4, 0, 0, 0, 3, [])), (3, (2, 1, 0, 0, 4, [])), (4, (2, 2, 0, 0, 5, [])), (8, (10, 0, 0, 0, 9, [])), (9, (25, 0, 0, 0, 10, [])), (10, (15, 0, 0, 0, 21, [])), (13, (7, 4, 0, 0, 15, [])), (15, (0, 0, 0, 1, 16, [])), (16, (27, 0, 0, 0, 17, [])), (17, (7, 4, 0, 0, 19, [])), (19, (0, 0, 0, 2, 20, [])), (20, (27, 0, 0, 0, 21, [])), (21, (0, 0, 0, 0, 22, [])), (22, (27, 0, 0, 0, 23, []))]
set_option maxRecDepth 100000 in
theorem K_L_word : ztbok F_L_word T_L_word := ztbB_ok (by decide +kernel)
set_option maxRecDepth 100000 in
theorem W_L_word : zMth yL_word (.codeWith yL_word cL_word 5 (some .int) [(0, 10, 13, 18), (0, 10, 17, 13)]) 4 := ⟨z_at 1205 (by decide +kernel) (by decide +kernel), z_at 0 (by decide +kernel) (by decide +kernel), ⟨by decide +kernel, by decide +kernel⟩, by decide +kernel⟩
set_option maxRecDepth 100000 in
theorem I_L_word : Cond.static yL_word ∈ zws := z_at 1204 (by decide +kernel) (by decide +kernel)
abbrev F_L_mend : zF := (13, cL_mend, some .int, 6, [(0, 12, 15, 13)], false)
def T_L_mend : List (Nat × zI) := [(0, (4, 4, 0, 0, 2, [])), (2, (0, 0, 0, 0, 3, [])), (3, (4, 0, 0, 0, 4, [])), (4, (2, 1, 0, 0, 5, [])), (5, (2, 2, 0, 0, 6, [])), (6, (2, 3, 0, 0, 7, [])), (10, (10, 0, 0, 0, 11, [])), (11, (25, 0, 0, 0, 12, [])), (12, (15, 0, 0, 0, 19, [])), (15, (7, 5, 0, 0, 17, [])), (17, (0, 0, 0, 1, 18, [])), (18, (27, 0, 0, 0, 19, [])), (19, (0, 0, 0, 0, 20, [])), (20, (27, 0, 0, 0, 21, []))]
set_option maxRecDepth 100000 in
theorem K_L_mend : ztbok F_L_mend T_L_mend := ztbB_ok (by decide +kernel)
set_option maxRecDepth 100000 in
theorem W_L_mend : zMth yL_mend (.codeWith yL_mend cL_mend 6 (some .int) [(0, 12, 15, 13)]) 5 := ⟨z_at 1212 (by decide +kernel) (by decide +kernel), z_at 0 (by decide +kernel) (by decide +kernel), ⟨by decide +kernel, by decide +kernel⟩, by decide +kernel⟩
set_option maxRecDepth 100000 in
theorem I_L_mend : Cond.static yL_mend ∈ zws := z_at 1211 (by decide +kernel) (by decide +kernel)
abbrev F_L_fire : zF := (13, cL_fire, some .int, 8, [(0, 15, 18, 18), (0, 15, 22, 13)], false)
def T_L_fire : List (Nat × zI) := [(0, (4, 6, 0, 0, 2, [])), (2, (0, 0, 0, 0, 3, [])), (3, (4, 0, 0, 0, 4, [])), (4, (2, 1, 0, 0, 5, [])), (5, (2, 2, 0, 0, 6, [])), (6, (2, 3, 0, 0, 7, [])), (7, (2, 4, 0, 0, 9, [])), (9, (2, 5, 0, 0, 11, [])), (14, (25, 0, 0, 0, 15, [])), (15, (15, 0, 0, 0, 26, [])), (18, (7, 7, 0, 0, 20, [])), (20, (0, 0, 0, 1, 21, [])), (21, (27, 0, 0, 0, 22, [])), (22, (7, 7, 0, 0, 24, [])), (24, (0, 0, 0, 2, 25, [])), (25, (27, 0, 0, 0, 26, [])), (26, (0, 0, 0, 0, 27, [])), (27, (27, 0, 0, 0, 28, []))]
set_option maxRecDepth 100000 in
theorem K_L_fire : ztbok F_L_fire T_L_fire := ztbB_ok (by decide +kernel)
set_option maxRecDepth 100000 in
theorem W_L_fire : zMth yL_fire (.codeWith yL_fire cL_fire 8 (some .int) [(0, 15, 18, 18), (0, 15, 22, 13)]) 7 := ⟨z_at 1225 (by decide +kernel) (by decide +kernel), z_at 0 (by decide +kernel) (by decide +kernel), ⟨by decide +kernel, by decide +kernel⟩, by decide +kernel⟩
set_option maxRecDepth 100000 in
theorem I_L_fire : Cond.static yL_fire ∈ zws := z_at 1224 (by decide +kernel) (by decide +kernel)
set_option maxRecDepth 100000 in
theorem C_11_18 : Cond.methodLink (zown 11) 18 yX6_init ∈ zws := z_at 53 (by decide +kernel) (by decide +kernel)
set_option maxRecDepth 100000 in
theorem C_11_32 : Cond.methodLink (zown 11) 32 yX7_init ∈ zws := z_at 131 (by decide +kernel) (by decide +kernel)
set_option maxRecDepth 100000 in
theorem C_11_51 : Cond.methodLink (zown 11) 51 yX3_init ∈ zws := z_at 210 (by decide +kernel) (by decide +kernel)
set_option maxRecDepth 100000 in
theorem C_11_60 : Cond.methodLink (zown 11) 60 yX1_init ∈ zws := z_at 223 (by decide +kernel) (by decide +kernel)
set_option maxRecDepth 100000 in
theorem C_11_69 : Cond.methodLink (zown 11) 69 yX2_init ∈ zws := z_at 245 (by decide +kernel) (by decide +kernel)
set_option maxRecDepth 100000 in
theorem C_11_76 : Cond.methodLink (zown 11) 76 yX10_init ∈ zws := z_at 267 (by decide +kernel) (by decide +kernel)
set_option maxRecDepth 100000 in
theorem C_11_85 : Cond.methodLink (zown 11) 85 yX4_init ∈ zws := z_at 298 (by decide +kernel) (by decide +kernel)
set_option maxRecDepth 100000 in
theorem C_11_92 : Cond.methodLink (zown 11) 92 yX5_init ∈ zws := z_at 324 (by decide +kernel) (by decide +kernel)
set_option maxRecDepth 100000 in
theorem C_11_116 : Cond.methodLink (zown 11) 116 yX9_hasRoomFor ∈ zws := z_at 432 (by decide +kernel) (by decide +kernel)
set_option maxRecDepth 100000 in
theorem C_11_120 : Cond.methodLink (zown 11) 120 yX9_append ∈ zws := z_at 436 (by decide +kernel) (by decide +kernel)
set_option maxRecDepth 100000 in
theorem C_11_134 : Cond.methodLink (zown 11) 134 yX7_read ∈ zws := z_at 613 (by decide +kernel) (by decide +kernel)
set_option maxRecDepth 100000 in
theorem C_11_141 : Cond.methodLink (zown 11) 141 yX6_copyFrom ∈ zws := z_at 781 (by decide +kernel) (by decide +kernel)
set_option maxRecDepth 100000 in
theorem C_11_145 : Cond.methodLink (zown 11) 145 yX0_begin ∈ zws := z_at 786 (by decide +kernel) (by decide +kernel)
set_option maxRecDepth 100000 in
theorem C_11_179 : Cond.methodLink (zown 11) 179 yX11_needRoom ∈ zws := z_at 822 (by decide +kernel) (by decide +kernel)
set_option maxRecDepth 100000 in
theorem C_11_182 : Cond.methodLink (zown 11) 182 yX11_needOneOf ∈ zws := z_at 827 (by decide +kernel) (by decide +kernel)
set_option maxRecDepth 100000 in
theorem C_11_192 : Cond.methodLink (zown 11) 192 yX11_needLodger ∈ zws := z_at 838 (by decide +kernel) (by decide +kernel)
set_option maxRecDepth 100000 in
theorem C_11_198 : Cond.methodLink (zown 11) 198 yX0_shoesOf ∈ zws := z_at 843 (by decide +kernel) (by decide +kernel)
set_option maxRecDepth 100000 in
theorem C_11_202 : Cond.methodLink (zown 11) 202 yX11_needHour ∈ zws := z_at 854 (by decide +kernel) (by decide +kernel)
set_option maxRecDepth 100000 in
theorem C_11_205 : Cond.methodLink (zown 11) 205 yX6_doings ∈ zws := z_at 858 (by decide +kernel) (by decide +kernel)
set_option maxRecDepth 100000 in
theorem C_11_208 : Cond.methodLink (zown 11) 208 yJ6_bitCount_0f7a4 ∈ zws := z_at 482 (by decide +kernel) (by decide +kernel)
set_option maxRecDepth 100000 in
theorem C_11_213 : Cond.methodLink (zown 11) 213 yX11_nthBit ∈ zws := z_at 859 (by decide +kernel) (by decide +kernel)
set_option maxRecDepth 100000 in
theorem C_11_216 : Cond.methodLink (zown 11) 216 yX6_canDo ∈ zws := z_at 867 (by decide +kernel) (by decide +kernel)
set_option maxRecDepth 100000 in
theorem C_11_222 : Cond.methodLink (zown 11) 222 yX3_signOf ∈ zws := z_at 872 (by decide +kernel) (by decide +kernel)
set_option maxRecDepth 100000 in
theorem C_11_225 : Cond.methodLink (zown 11) 225 yX0_canLend ∈ zws := z_at 883 (by decide +kernel) (by decide +kernel)
set_option maxRecDepth 100000 in
theorem C_11_228 : Cond.methodLink (zown 11) 228 yX0_handOver ∈ zws := z_at 888 (by decide +kernel) (by decide +kernel)
set_option maxRecDepth 100000 in
theorem C_11_232 : Cond.methodLink (zown 11) 232 yX0_handBack ∈ zws := z_at 448 (by decide +kernel) (by decide +kernel)
set_option maxRecDepth 100000 in
theorem C_11_235 : Cond.methodLink (zown 11) 235 yX0_drawDay ∈ zws := z_at 460 (by decide +kernel) (by decide +kernel)
set_option maxRecDepth 100000 in
theorem C_11_239 : Cond.methodLink (zown 11) 239 yX0_doing ∈ zws := z_at 899 (by decide +kernel) (by decide +kernel)
set_option maxRecDepth 100000 in
theorem C_11_242 : Cond.methodLink (zown 11) 242 yX3_signAt ∈ zws := z_at 910 (by decide +kernel) (by decide +kernel)
set_option maxRecDepth 100000 in
theorem C_11_248 : Cond.methodLink (zown 11) 248 yX11_hourOfTheft ∈ zws := z_at 930 (by decide +kernel) (by decide +kernel)
set_option maxRecDepth 100000 in
theorem C_11_251 : Cond.methodLink (zown 11) 251 yX11_finderAt ∈ zws := z_at 934 (by decide +kernel) (by decide +kernel)
set_option maxRecDepth 100000 in
theorem C_11_254 : Cond.methodLink (zown 11) 254 yX0_hasSeen ∈ zws := z_at 945 (by decide +kernel) (by decide +kernel)
set_option maxRecDepth 100000 in
theorem C_11_257 : Cond.methodLink (zown 11) 257 yX0_note ∈ zws := z_at 949 (by decide +kernel) (by decide +kernel)
set_option maxRecDepth 100000 in
theorem C_11_260 : Cond.methodLink (zown 11) 260 yX0_seeNothing ∈ zws := z_at 483 (by decide +kernel) (by decide +kernel)
set_option maxRecDepth 100000 in
theorem C_11_263 : Cond.methodLink (zown 11) 263 yX1_reckon ∈ zws := z_at 491 (by decide +kernel) (by decide +kernel)
set_option maxRecDepth 100000 in
theorem C_11_267 : Cond.methodLink (zown 11) 267 yX1_doingIn ∈ zws := z_at 960 (by decide +kernel) (by decide +kernel)
set_option maxRecDepth 100000 in
theorem C_11_270 : Cond.methodLink (zown 11) 270 yX1_doorToKnockAt ∈ zws := z_at 972 (by decide +kernel) (by decide +kernel)
set_option maxRecDepth 100000 in
theorem C_11_273 : Cond.methodLink (zown 11) 273 yX1_surelyEmpty ∈ zws := z_at 987 (by decide +kernel) (by decide +kernel)
set_option maxRecDepth 100000 in
theorem C_11_276 : Cond.methodLink (zown 11) 276 yX1_surelyTaken ∈ zws := z_at 991 (by decide +kernel) (by decide +kernel)
set_option maxRecDepth 100000 in
theorem C_11_279 : Cond.methodLink (zown 11) 279 yX1_roomsOf ∈ zws := z_at 1002 (by decide +kernel) (by decide +kernel)
set_option maxRecDepth 100000 in
theorem C_11_282 : Cond.methodLink (zown 11) 282 yX6_rowsOf ∈ zws := z_at 1013 (by decide +kernel) (by decide +kernel)
set_option maxRecDepth 100000 in
theorem C_11_285 : Cond.methodLink (zown 11) 285 yX2_fewestLiars ∈ zws := z_at 1014 (by decide +kernel) (by decide +kernel)
set_option maxRecDepth 100000 in
theorem C_11_288 : Cond.methodLink (zown 11) 288 yX3_chanceAt ∈ zws := z_at 1038 (by decide +kernel) (by decide +kernel)
set_option maxRecDepth 100000 in
theorem C_11_293 : Cond.methodLink (zown 11) 293 yX10_keepBest ∈ zws := z_at 1052 (by decide +kernel) (by decide +kernel)
set_option maxRecDepth 100000 in
theorem C_11_304 : Cond.methodLink (zown 11) 304 yX4_play ∈ zws := z_at 1100 (by decide +kernel) (by decide +kernel)
set_option maxRecDepth 100000 in
theorem C_11_314 : Cond.methodLink (zown 11) 314 yX5_keepFewest ∈ zws := z_at 1128 (by decide +kernel) (by decide +kernel)
set_option maxRecDepth 100000 in
theorem C_11_322 : Cond.methodLink (zown 11) 322 yX11_needWordCount ∈ zws := z_at 1182 (by decide +kernel) (by decide +kernel)
set_option maxRecDepth 100000 in
theorem C_11_325 : Cond.methodLink (zown 11) 325 yX11_needApart ∈ zws := z_at 1186 (by decide +kernel) (by decide +kernel)
set_option maxRecDepth 100000 in
theorem C_11_328 : Cond.methodLink (zown 11) 328 yX8_lay ∈ zws := z_at 1190 (by decide +kernel) (by decide +kernel)
set_option maxRecDepth 100000 in
theorem C_11_331 : Cond.methodLink (zown 11) 331 yX8_kindsFor ∈ zws := z_at 1199 (by decide +kernel) (by decide +kernel)
set_option maxRecDepth 100000 in
theorem C_11_344 : Cond.methodLink (zown 11) 344 yX8_mended ∈ zws := z_at 1219 (by decide +kernel) (by decide +kernel)
set_option maxRecDepth 100000 in
theorem C_11_349 : Cond.methodLink (zown 11) 349 yJ9_abs_0f7a4 ∈ zws := z_at 1231 (by decide +kernel) (by decide +kernel)
set_option maxRecDepth 100000 in
theorem C_11_354 : Cond.methodLink (zown 11) 354 yJ9_min_7cf53 ∈ zws := z_at 1234 (by decide +kernel) (by decide +kernel)
set_option maxRecDepth 100000 in
theorem C_11_357 : Cond.methodLink (zown 11) 357 yX11_partOfEscape ∈ zws := z_at 1235 (by decide +kernel) (by decide +kernel)
set_option maxRecDepth 100000 in
theorem C_11_360 : Cond.methodLink (zown 11) 360 yX0_copyFrom ∈ zws := z_at 528 (by decide +kernel) (by decide +kernel)
set_option maxRecDepth 100000 in
theorem C_11_375 : Cond.methodLink (zown 11) 375 yX11_commonPart ∈ zws := z_at 1238 (by decide +kernel) (by decide +kernel)
set_option maxRecDepth 100000 in
theorem C_0_40 : Cond.methodLink (zown 0) 40 yX0_seeNothing ∈ zws := z_at 790 (by decide +kernel) (by decide +kernel)
set_option maxRecDepth 100000 in
theorem C_0_51 : Cond.methodLink (zown 0) 51 yX6_doings ∈ zws := z_at 464 (by decide +kernel) (by decide +kernel)
set_option maxRecDepth 100000 in
theorem C_0_73 : Cond.methodLink (zown 0) 73 yX0_shoesOf ∈ zws := z_at 887 (by decide +kernel) (by decide +kernel)
set_option maxRecDepth 100000 in
theorem C_0_76 : Cond.methodLink (zown 0) 76 yX0_move ∈ zws := z_at 452 (by decide +kernel) (by decide +kernel)
set_option maxRecDepth 100000 in
theorem C_0_80 : Cond.methodLink (zown 0) 80 yJ6_bitCount_0f7a4 ∈ zws := z_at 468 (by decide +kernel) (by decide +kernel)
set_option maxRecDepth 100000 in
theorem C_1_33 : Cond.methodLink (zown 1) 33 yX6_rowsOf ∈ zws := z_at 495 (by decide +kernel) (by decide +kernel)
set_option maxRecDepth 100000 in
theorem C_1_42 : Cond.methodLink (zown 1) 42 yX1_emptyRoomsHold ∈ zws := z_at 501 (by decide +kernel) (by decide +kernel)
set_option maxRecDepth 100000 in
theorem C_1_49 : Cond.methodLink (zown 1) 49 yX1_doingsHeld ∈ zws := z_at 505 (by decide +kernel) (by decide +kernel)
set_option maxRecDepth 100000 in
theorem C_1_53 : Cond.methodLink (zown 1) 53 yJ6_bitCount_0f7a4 ∈ zws := z_at 523 (by decide +kernel) (by decide +kernel)
set_option maxRecDepth 100000 in
theorem C_1_73 : Cond.methodLink (zown 1) 73 yX6_doings ∈ zws := z_at 509 (by decide +kernel) (by decide +kernel)
set_option maxRecDepth 100000 in
theorem C_1_75 : Cond.methodLink (zown 1) 75 yX3_doingsBySign ∈ zws := z_at 510 (by decide +kernel) (by decide +kernel)
set_option maxRecDepth 100000 in
theorem C_1_84 : Cond.methodLink (zown 1) 84 yX6_doingsIn ∈ zws := z_at 980 (by decide +kernel) (by decide +kernel)
set_option maxRecDepth 100000 in
theorem C_1_87 : Cond.methodLink (zown 1) 87 yX1_casesWithout ∈ zws := z_at 976 (by decide +kernel) (by decide +kernel)
set_option maxRecDepth 100000 in
theorem C_1_90 : Cond.methodLink (zown 1) 90 yJ9_max_7cf53 ∈ zws := z_at 984 (by decide +kernel) (by decide +kernel)
set_option maxRecDepth 100000 in
theorem C_2_30 : Cond.methodLink (zown 2) 30 yX2_sortDoings ∈ zws := z_at 1018 (by decide +kernel) (by decide +kernel)
set_option maxRecDepth 100000 in
theorem C_2_40 : Cond.methodLink (zown 2) 40 yJ6_bitCount_0f7a4 ∈ zws := z_at 1025 (by decide +kernel) (by decide +kernel)
set_option maxRecDepth 100000 in
theorem C_2_46 : Cond.methodLink (zown 2) 46 yX2_misleads ∈ zws := z_at 1026 (by decide +kernel) (by decide +kernel)
set_option maxRecDepth 100000 in
theorem C_2_50 : Cond.methodLink (zown 2) 50 yX0_doing ∈ zws := z_at 1022 (by decide +kernel) (by decide +kernel)
set_option maxRecDepth 100000 in
theorem C_2_56 : Cond.methodLink (zown 2) 56 yX3_signOf ∈ zws := z_at 1023 (by decide +kernel) (by decide +kernel)
set_option maxRecDepth 100000 in
theorem C_2_61 : Cond.methodLink (zown 2) 61 yX3_doingsBySign ∈ zws := z_at 1024 (by decide +kernel) (by decide +kernel)
set_option maxRecDepth 100000 in
theorem C_2_65 : Cond.methodLink (zown 2) 65 yX6_doingsIn ∈ zws := z_at 1030 (by decide +kernel) (by decide +kernel)
set_option maxRecDepth 100000 in
theorem C_3_19 : Cond.methodLink (zown 3) 19 yX6_lawFor ∈ zws := z_at 519 (by decide +kernel) (by decide +kernel)
set_option maxRecDepth 100000 in
theorem C_3_25 : Cond.methodLink (zown 3) 25 yX0_shoeKinds ∈ zws := z_at 515 (by decide +kernel) (by decide +kernel)
set_option maxRecDepth 100000 in
theorem C_3_34 : Cond.methodLink (zown 3) 34 yX0_doing ∈ zws := z_at 914 (by decide +kernel) (by decide +kernel)
set_option maxRecDepth 100000 in
theorem C_3_38 : Cond.methodLink (zown 3) 38 yX3_signOf ∈ zws := z_at 915 (by decide +kernel) (by decide +kernel)
set_option maxRecDepth 100000 in
theorem C_3_41 : Cond.methodLink (zown 3) 41 yX6_doings ∈ zws := z_at 514 (by decide +kernel) (by decide +kernel)
set_option maxRecDepth 100000 in
theorem C_3_44 : Cond.methodLink (zown 3) 44 yJ6_bitCount_0f7a4 ∈ zws := z_at 1042 (by decide +kernel) (by decide +kernel)
set_option maxRecDepth 100000 in
theorem C_3_49 : Cond.methodLink (zown 3) 49 yX3_doingsBySign ∈ zws := z_at 1043 (by decide +kernel) (by decide +kernel)
set_option maxRecDepth 100000 in
theorem C_3_56 : Cond.methodLink (zown 3) 56 yX3_chanceAt ∈ zws := z_at 1064 (by decide +kernel) (by decide +kernel)
set_option maxRecDepth 100000 in
theorem C_4_38 : Cond.methodLink (zown 4) 38 yX3_worthOf ∈ zws := z_at 1104 (by decide +kernel) (by decide +kernel)
set_option maxRecDepth 100000 in
theorem C_4_44 : Cond.methodLink (zown 4) 44 yX4_layRow ∈ zws := z_at 1105 (by decide +kernel) (by decide +kernel)
set_option maxRecDepth 100000 in
theorem C_4_48 : Cond.methodLink (zown 4) 48 yX4_isAtRest ∈ zws := z_at 1110 (by decide +kernel) (by decide +kernel)
set_option maxRecDepth 100000 in
theorem C_4_58 : Cond.methodLink (zown 4) 58 yJ7_fill_53178 ∈ zws := z_at 1109 (by decide +kernel) (by decide +kernel)
set_option maxRecDepth 100000 in
theorem C_4_64 : Cond.methodLink (zown 4) 64 yX4_share ∈ zws := z_at 1114 (by decide +kernel) (by decide +kernel)
set_option maxRecDepth 100000 in
theorem C_5_42 : Cond.methodLink (zown 5) 42 yJ7_fill_53178 ∈ zws := z_at 1132 (by decide +kernel) (by decide +kernel)
set_option maxRecDepth 100000 in
theorem C_5_54 : Cond.methodLink (zown 5) 54 yX5_countSpare ∈ zws := z_at 1133 (by decide +kernel) (by decide +kernel)
set_option maxRecDepth 100000 in
theorem C_5_58 : Cond.methodLink (zown 5) 58 yX5_isShoeless ∈ zws := z_at 1140 (by decide +kernel) (by decide +kernel)
set_option maxRecDepth 100000 in
theorem C_5_62 : Cond.methodLink (zown 5) 62 yX5_helpfulShoes ∈ zws := z_at 1145 (by decide +kernel) (by decide +kernel)
set_option maxRecDepth 100000 in
theorem C_5_66 : Cond.methodLink (zown 5) 66 yX5_canServe ∈ zws := z_at 1150 (by decide +kernel) (by decide +kernel)
set_option maxRecDepth 100000 in
theorem C_5_70 : Cond.methodLink (zown 5) 70 yX5_serveAll ∈ zws := z_at 1154 (by decide +kernel) (by decide +kernel)
set_option maxRecDepth 100000 in
theorem C_5_83 : Cond.methodLink (zown 5) 83 yX0_doing ∈ zws := z_at 1137 (by decide +kernel) (by decide +kernel)
set_option maxRecDepth 100000 in
theorem C_5_89 : Cond.methodLink (zown 5) 89 yX6_lawFor ∈ zws := z_at 1138 (by decide +kernel) (by decide +kernel)
set_option maxRecDepth 100000 in
theorem C_5_93 : Cond.methodLink (zown 5) 93 yX3_signOf ∈ zws := z_at 1144 (by decide +kernel) (by decide +kernel)
set_option maxRecDepth 100000 in
theorem C_5_98 : Cond.methodLink (zown 5) 98 yX0_shoeKinds ∈ zws := z_at 1149 (by decide +kernel) (by decide +kernel)
set_option maxRecDepth 100000 in
theorem C_5_101 : Cond.methodLink (zown 5) 101 yX0_shoesOf ∈ zws := z_at 1139 (by decide +kernel) (by decide +kernel)
set_option maxRecDepth 100000 in
theorem C_5_104 : Cond.methodLink (zown 5) 104 yX5_serve ∈ zws := z_at 1158 (by decide +kernel) (by decide +kernel)
set_option maxRecDepth 100000 in
theorem C_5_108 : Cond.methodLink (zown 5) 108 yX5_canSpare ∈ zws := z_at 1162 (by decide +kernel) (by decide +kernel)
set_option maxRecDepth 100000 in
theorem C_6_33 : Cond.methodLink (zown 6) 33 yX6_setFirstLaw ∈ zws := z_at 57 (by decide +kernel) (by decide +kernel)
set_option maxRecDepth 100000 in
theorem C_6_52 : Cond.methodLink (zown 6) 52 yJ7_fill_53178 ∈ zws := z_at 624 (by decide +kernel) (by decide +kernel)
set_option maxRecDepth 100000 in
theorem C_6_64 : Cond.methodLink (zown 6) 64 yX6_doings ∈ zws := z_at 499 (by decide +kernel) (by decide +kernel)
set_option maxRecDepth 100000 in
theorem C_6_68 : Cond.methodLink (zown 6) 68 yJ6_bitCount_0f7a4 ∈ zws := z_at 500 (by decide +kernel) (by decide +kernel)
set_option maxRecDepth 100000 in
theorem C_7_19 : Cond.methodLink (zown 7) 19 yJ9_min_7cf53 ∈ zws := z_at 617 (by decide +kernel) (by decide +kernel)
set_option maxRecDepth 100000 in
theorem C_7_38 : Cond.methodLink (zown 7) 38 yX6_clear ∈ zws := z_at 620 (by decide +kernel) (by decide +kernel)
set_option maxRecDepth 100000 in
theorem C_7_43 : Cond.methodLink (zown 7) 43 yX7_advance ∈ zws := z_at 627 (by decide +kernel) (by decide +kernel)
set_option maxRecDepth 100000 in
theorem C_7_49 : Cond.methodLink (zown 7) 49 yX7_readLine ∈ zws := z_at 639 (by decide +kernel) (by decide +kernel)
set_option maxRecDepth 100000 in
theorem C_7_54 : Cond.methodLink (zown 7) 54 yX7_isWord ∈ zws := z_at 644 (by decide +kernel) (by decide +kernel)
set_option maxRecDepth 100000 in
theorem C_7_58 : Cond.methodLink (zown 7) 58 yX7_readRoom ∈ zws := z_at 696 (by decide +kernel) (by decide +kernel)
set_option maxRecDepth 100000 in
theorem C_7_63 : Cond.methodLink (zown 7) 63 yX7_readLodger ∈ zws := z_at 721 (by decide +kernel) (by decide +kernel)
set_option maxRecDepth 100000 in
theorem C_7_68 : Cond.methodLink (zown 7) 68 yX7_readFinder ∈ zws := z_at 736 (by decide +kernel) (by decide +kernel)
set_option maxRecDepth 100000 in
theorem C_7_73 : Cond.methodLink (zown 7) 73 yX7_readMay ∈ zws := z_at 745 (by decide +kernel) (by decide +kernel)
set_option maxRecDepth 100000 in
theorem C_7_78 : Cond.methodLink (zown 7) 78 yX7_readLaw ∈ zws := z_at 767 (by decide +kernel) (by decide +kernel)
set_option maxRecDepth 100000 in
theorem C_7_81 : Cond.methodLink (zown 7) 81 yX7_refuse ∈ zws := z_at 704 (by decide +kernel) (by decide +kernel)
set_option maxRecDepth 100000 in
theorem C_7_88 : Cond.methodLink (zown 7) 88 yX7_isFull ∈ zws := z_at 700 (by decide +kernel) (by decide +kernel)
set_option maxRecDepth 100000 in
theorem C_7_92 : Cond.methodLink (zown 7) 92 yX7_numberWithin ∈ zws := z_at 708 (by decide +kernel) (by decide +kernel)
set_option maxRecDepth 100000 in
theorem C_7_95 : Cond.methodLink (zown 7) 95 yX6_addRoom ∈ zws := z_at 716 (by decide +kernel) (by decide +kernel)
set_option maxRecDepth 100000 in
theorem C_7_102 : Cond.methodLink (zown 7) 102 yX7_toldNumber ∈ zws := z_at 725 (by decide +kernel) (by decide +kernel)
set_option maxRecDepth 100000 in
theorem C_7_109 : Cond.methodLink (zown 7) 109 yX6_addLodger ∈ zws := z_at 729 (by decide +kernel) (by decide +kernel)
set_option maxRecDepth 100000 in
theorem C_7_122 : Cond.methodLink (zown 7) 122 yX6_addFinder ∈ zws := z_at 740 (by decide +kernel) (by decide +kernel)
set_option maxRecDepth 100000 in
theorem C_7_128 : Cond.methodLink (zown 7) 128 yX7_readDoing ∈ zws := z_at 749 (by decide +kernel) (by decide +kernel)
set_option maxRecDepth 100000 in
theorem C_7_131 : Cond.methodLink (zown 7) 131 yX6_addMay ∈ zws := z_at 762 (by decide +kernel) (by decide +kernel)
set_option maxRecDepth 100000 in
theorem C_7_137 : Cond.methodLink (zown 7) 137 yX7_ownDoing ∈ zws := z_at 754 (by decide +kernel) (by decide +kernel)
set_option maxRecDepth 100000 in
theorem C_7_147 : Cond.methodLink (zown 7) 147 yX7_signTold ∈ zws := z_at 771 (by decide +kernel) (by decide +kernel)
set_option maxRecDepth 100000 in
theorem C_7_150 : Cond.methodLink (zown 7) 150 yX6_addLaw ∈ zws := z_at 777 (by decide +kernel) (by decide +kernel)
set_option maxRecDepth 100000 in
theorem C_7_166 : Cond.methodLink (zown 7) 166 yX7_faultOfNumber ∈ zws := z_at 712 (by decide +kernel) (by decide +kernel)
set_option maxRecDepth 100000 in
theorem C_7_175 : Cond.methodLink (zown 7) 175 yJ0_length_8abf5 ∈ zws := z_at 648 (by decide +kernel) (by decide +kernel)
set_option maxRecDepth 100000 in
theorem C_7_180 : Cond.methodLink (zown 7) 180 yJ0_charAt_5068e ∈ zws := z_at 658 (by decide +kernel) (by decide +kernel)
set_option maxRecDepth 100000 in
theorem C_7_184 : Cond.methodLink (zown 7) 184 yX7_takeRow ∈ zws := z_at 631 (by decide +kernel) (by decide +kernel)
set_option maxRecDepth 100000 in
theorem C_7_188 : Cond.methodLink (zown 7) 188 yX7_valueHere ∈ zws := z_at 635 (by decide +kernel) (by decide +kernel)
set_option maxRecDepth 100000 in
theorem C_8_22 : Cond.methodLink (zown 8) 22 yX8_isApart ∈ zws := z_at 1194 (by decide +kernel) (by decide +kernel)
set_option maxRecDepth 100000 in
theorem C_8_26 : Cond.methodLink (zown 8) 26 yJ6_bitCount_0f7a4 ∈ zws := z_at 1198 (by decide +kernel) (by decide +kernel)
set_option maxRecDepth 100000 in
theorem C_10_32 : Cond.methodLink (zown 10) 32 yX10_weigh ∈ zws := z_at 1056 (by decide +kernel) (by decide +kernel)
set_option maxRecDepth 100000 in
theorem C_10_36 : Cond.methodLink (zown 10) 36 yX10_layRow ∈ zws := z_at 1065 (by decide +kernel) (by decide +kernel)
set_option maxRecDepth 100000 in
theorem C_10_40 : Cond.methodLink (zown 10) 40 yX10_worthOfRow ∈ zws := z_at 1069 (by decide +kernel) (by decide +kernel)
set_option maxRecDepth 100000 in
theorem C_10_44 : Cond.methodLink (zown 10) 44 yX10_keepRow ∈ zws := z_at 1081 (by decide +kernel) (by decide +kernel)
set_option maxRecDepth 100000 in
theorem C_10_53 : Cond.methodLink (zown 10) 53 yX3_worthOf ∈ zws := z_at 1060 (by decide +kernel) (by decide +kernel)
set_option maxRecDepth 100000 in
theorem C_10_59 : Cond.methodLink (zown 10) 59 yX10_isLook ∈ zws := z_at 1073 (by decide +kernel) (by decide +kernel)
set_option maxRecDepth 100000 in
theorem C_10_63 : Cond.methodLink (zown 10) 63 yX10_worthAt ∈ zws := z_at 1077 (by decide +kernel) (by decide +kernel)
set_option maxRecDepth 100000 in
theorem C_13_7 : Cond.methodLink (zown 13) 7 yX11_house ∈ zws := z_at 543 (by decide +kernel) (by decide +kernel)
set_option maxRecDepth 100000 in
theorem C_13_15 : Cond.methodLink (zown 13) 15 yX11_count ∈ zws := z_at 795 (by decide +kernel) (by decide +kernel)
set_option maxRecDepth 100000 in
theorem C_13_20 : Cond.methodLink (zown 13) 20 yX11_room ∈ zws := z_at 818 (by decide +kernel) (by decide +kernel)
set_option maxRecDepth 100000 in
theorem C_13_24 : Cond.methodLink (zown 13) 24 yX11_lodger ∈ zws := z_at 834 (by decide +kernel) (by decide +kernel)
set_option maxRecDepth 100000 in
theorem C_13_27 : Cond.methodLink (zown 13) 27 yX11_may ∈ zws := z_at 850 (by decide +kernel) (by decide +kernel)
set_option maxRecDepth 100000 in
theorem C_13_31 : Cond.methodLink (zown 13) 31 yX11_says ∈ zws := z_at 863 (by decide +kernel) (by decide +kernel)
set_option maxRecDepth 100000 in
theorem C_13_34 : Cond.methodLink (zown 13) 34 yX11_lend ∈ zws := z_at 879 (by decide +kernel) (by decide +kernel)
set_option maxRecDepth 100000 in
theorem C_13_37 : Cond.methodLink (zown 13) 37 yX11_does ∈ zws := z_at 895 (by decide +kernel) (by decide +kernel)
set_option maxRecDepth 100000 in
theorem C_13_40 : Cond.methodLink (zown 13) 40 yX11_sign ∈ zws := z_at 906 (by decide +kernel) (by decide +kernel)
set_option maxRecDepth 100000 in
theorem C_13_43 : Cond.methodLink (zown 13) 43 yX11_look ∈ zws := z_at 919 (by decide +kernel) (by decide +kernel)
set_option maxRecDepth 100000 in
theorem C_13_46 : Cond.methodLink (zown 13) 46 yX11_theft ∈ zws := z_at 926 (by decide +kernel) (by decide +kernel)
set_option maxRecDepth 100000 in
theorem C_13_49 : Cond.methodLink (zown 13) 49 yX11_see ∈ zws := z_at 941 (by decide +kernel) (by decide +kernel)
set_option maxRecDepth 100000 in
theorem C_13_52 : Cond.methodLink (zown 13) 52 yX11_inCase ∈ zws := z_at 956 (by decide +kernel) (by decide +kernel)
set_option maxRecDepth 100000 in
theorem C_13_55 : Cond.methodLink (zown 13) 55 yX11_sure ∈ zws := z_at 968 (by decide +kernel) (by decide +kernel)
set_option maxRecDepth 100000 in
theorem C_13_58 : Cond.methodLink (zown 13) 58 yX11_where ∈ zws := z_at 998 (by decide +kernel) (by decide +kernel)
set_option maxRecDepth 100000 in
theorem C_13_61 : Cond.methodLink (zown 13) 61 yX11_misled ∈ zws := z_at 1009 (by decide +kernel) (by decide +kernel)
set_option maxRecDepth 100000 in
theorem C_13_64 : Cond.methodLink (zown 13) 64 yX11_chance ∈ zws := z_at 1034 (by decide +kernel) (by decide +kernel)
set_option maxRecDepth 100000 in
theorem C_13_67 : Cond.methodLink (zown 13) 67 yX11_round ∈ zws := z_at 1047 (by decide +kernel) (by decide +kernel)
set_option maxRecDepth 100000 in
theorem C_13_70 : Cond.methodLink (zown 13) 70 yX11_path ∈ zws := z_at 1088 (by decide +kernel) (by decide +kernel)
set_option maxRecDepth 100000 in
theorem C_13_73 : Cond.methodLink (zown 13) 73 yX11_rests ∈ zws := z_at 1095 (by decide +kernel) (by decide +kernel)
set_option maxRecDepth 100000 in
theorem C_13_76 : Cond.methodLink (zown 13) 76 yX11_fewest ∈ zws := z_at 1123 (by decide +kernel) (by decide +kernel)
set_option maxRecDepth 100000 in
theorem C_13_79 : Cond.methodLink (zown 13) 79 yX11_lender ∈ zws := z_at 1170 (by decide +kernel) (by decide +kernel)
set_option maxRecDepth 100000 in
theorem C_13_82 : Cond.methodLink (zown 13) 82 yX11_kinds ∈ zws := z_at 1178 (by decide +kernel) (by decide +kernel)
set_option maxRecDepth 100000 in
theorem C_13_85 : Cond.methodLink (zown 13) 85 yX11_word ∈ zws := z_at 1206 (by decide +kernel) (by decide +kernel)
set_option maxRecDepth 100000 in
theorem C_13_88 : Cond.methodLink (zown 13) 88 yX11_mend ∈ zws := z_at 1213 (by decide +kernel) (by decide +kernel)
set_option maxRecDepth 100000 in
theorem C_13_91 : Cond.methodLink (zown 13) 91 yX11_fire ∈ zws := z_at 1226 (by decide +kernel) (by decide +kernel)
set_option maxRecDepth 100000 in
theorem C_13_95 : Cond.methodLink (zown 13) 95 yX11_init ∈ zws := z_at 29 (by decide +kernel) (by decide +kernel)
set_option maxRecDepth 100000 in
theorem C_13_98 : Cond.methodLink (zown 13) 98 yX12_init ∈ zws := z_at 1243 (by decide +kernel) (by decide +kernel)
set_option maxRecDepth 100000 in
theorem C_13_99 : Cond.methodLink (zown 13) 99 yX11_feed ∈ zws := z_at 428 (by decide +kernel) (by decide +kernel)
set_option maxRecDepth 100000 in
theorem C_13_103 : Cond.methodLink (zown 13) 103 yX12_feed ∈ zws := z_at 1459 (by decide +kernel) (by decide +kernel)
set_option maxRecDepth 100000 in
theorem C_13_104 : Cond.methodLink (zown 13) 104 yL_house ∈ zws := z_at 539 (by decide +kernel) (by decide +kernel)
set_option maxRecDepth 100000 in
theorem C_13_109 : Cond.methodLink (zown 13) 109 yX12_house ∈ zws := z_at 1467 (by decide +kernel) (by decide +kernel)
set_option maxRecDepth 100000 in
theorem C_13_110 : Cond.methodLink (zown 13) 110 yX12_thrown ∈ zws := z_at 1455 (by decide +kernel) (by decide +kernel)
set_option maxRecDepth 100000 in
theorem C_13_114 : Cond.methodLink (zown 13) 114 yX11_fault ∈ zws := z_at 440 (by decide +kernel) (by decide +kernel)
set_option maxRecDepth 100000 in
theorem C_13_117 : Cond.methodLink (zown 13) 117 yX12_fault ∈ zws := z_at 1547 (by decide +kernel) (by decide +kernel)
set_option maxRecDepth 100000 in
theorem C_13_118 : Cond.methodLink (zown 13) 118 yL_count ∈ zws := z_at 791 (by decide +kernel) (by decide +kernel)
set_option maxRecDepth 100000 in
theorem C_13_120 : Cond.methodLink (zown 13) 120 yX12_count ∈ zws := z_at 1551 (by decide +kernel) (by decide +kernel)
set_option maxRecDepth 100000 in
theorem C_13_121 : Cond.methodLink (zown 13) 121 yL_room ∈ zws := z_at 815 (by decide +kernel) (by decide +kernel)
set_option maxRecDepth 100000 in
theorem C_13_124 : Cond.methodLink (zown 13) 124 yX12_room ∈ zws := z_at 1558 (by decide +kernel) (by decide +kernel)
set_option maxRecDepth 100000 in
theorem C_13_125 : Cond.methodLink (zown 13) 125 yL_lodger ∈ zws := z_at 831 (by decide +kernel) (by decide +kernel)
set_option maxRecDepth 100000 in
theorem C_13_127 : Cond.methodLink (zown 13) 127 yX12_lodger ∈ zws := z_at 1570 (by decide +kernel) (by decide +kernel)
set_option maxRecDepth 100000 in
theorem C_13_128 : Cond.methodLink (zown 13) 128 yL_may ∈ zws := z_at 847 (by decide +kernel) (by decide +kernel)
set_option maxRecDepth 100000 in
theorem C_13_131 : Cond.methodLink (zown 13) 131 yX12_may ∈ zws := z_at 1582 (by decide +kernel) (by decide +kernel)
set_option maxRecDepth 100000 in
theorem C_13_132 : Cond.methodLink (zown 13) 132 yL_says ∈ zws := z_at 860 (by decide +kernel) (by decide +kernel)
set_option maxRecDepth 100000 in
theorem C_13_134 : Cond.methodLink (zown 13) 134 yX12_says ∈ zws := z_at 1596 (by decide +kernel) (by decide +kernel)
set_option maxRecDepth 100000 in
theorem C_13_135 : Cond.methodLink (zown 13) 135 yL_lend ∈ zws := z_at 876 (by decide +kernel) (by decide +kernel)
set_option maxRecDepth 100000 in
theorem C_13_137 : Cond.methodLink (zown 13) 137 yX12_lend ∈ zws := z_at 1612 (by decide +kernel) (by decide +kernel)
set_option maxRecDepth 100000 in
theorem C_13_138 : Cond.methodLink (zown 13) 138 yX11_back ∈ zws := z_at 444 (by decide +kernel) (by decide +kernel)
set_option maxRecDepth 100000 in
theorem C_13_141 : Cond.methodLink (zown 13) 141 yX12_back ∈ zws := z_at 1620 (by decide +kernel) (by decide +kernel)
set_option maxRecDepth 100000 in
theorem C_13_142 : Cond.methodLink (zown 13) 142 yX11_draw ∈ zws := z_at 456 (by decide +kernel) (by decide +kernel)
set_option maxRecDepth 100000 in
theorem C_13_146 : Cond.methodLink (zown 13) 146 yX12_draw ∈ zws := z_at 1624 (by decide +kernel) (by decide +kernel)
set_option maxRecDepth 100000 in
theorem C_13_147 : Cond.methodLink (zown 13) 147 yL_does ∈ zws := z_at 892 (by decide +kernel) (by decide +kernel)
set_option maxRecDepth 100000 in
theorem C_13_149 : Cond.methodLink (zown 13) 149 yX12_does ∈ zws := z_at 1629 (by decide +kernel) (by decide +kernel)
set_option maxRecDepth 100000 in
theorem C_13_150 : Cond.methodLink (zown 13) 150 yL_sign ∈ zws := z_at 903 (by decide +kernel) (by decide +kernel)
set_option maxRecDepth 100000 in
theorem C_13_152 : Cond.methodLink (zown 13) 152 yX12_sign ∈ zws := z_at 1633 (by decide +kernel) (by decide +kernel)
set_option maxRecDepth 100000 in
theorem C_13_153 : Cond.methodLink (zown 13) 153 yL_look ∈ zws := z_at 916 (by decide +kernel) (by decide +kernel)
set_option maxRecDepth 100000 in
theorem C_13_155 : Cond.methodLink (zown 13) 155 yX12_look ∈ zws := z_at 1641 (by decide +kernel) (by decide +kernel)
set_option maxRecDepth 100000 in
theorem C_13_156 : Cond.methodLink (zown 13) 156 yL_theft ∈ zws := z_at 923 (by decide +kernel) (by decide +kernel)
set_option maxRecDepth 100000 in
theorem C_13_158 : Cond.methodLink (zown 13) 158 yX12_theft ∈ zws := z_at 1649 (by decide +kernel) (by decide +kernel)
set_option maxRecDepth 100000 in
theorem C_13_159 : Cond.methodLink (zown 13) 159 yL_see ∈ zws := z_at 938 (by decide +kernel) (by decide +kernel)
set_option maxRecDepth 100000 in
theorem C_13_161 : Cond.methodLink (zown 13) 161 yX12_see ∈ zws := z_at 1653 (by decide +kernel) (by decide +kernel)
set_option maxRecDepth 100000 in
theorem C_13_162 : Cond.methodLink (zown 13) 162 yX11_forget ∈ zws := z_at 478 (by decide +kernel) (by decide +kernel)
set_option maxRecDepth 100000 in
theorem C_13_165 : Cond.methodLink (zown 13) 165 yX12_forget ∈ zws := z_at 1657 (by decide +kernel) (by decide +kernel)
set_option maxRecDepth 100000 in
theorem C_13_166 : Cond.methodLink (zown 13) 166 yX11_cases ∈ zws := z_at 487 (by decide +kernel) (by decide +kernel)
set_option maxRecDepth 100000 in
theorem C_13_169 : Cond.methodLink (zown 13) 169 yX12_cases ∈ zws := z_at 1661 (by decide +kernel) (by decide +kernel)
set_option maxRecDepth 100000 in
theorem C_13_170 : Cond.methodLink (zown 13) 170 yL_inCase ∈ zws := z_at 953 (by decide +kernel) (by decide +kernel)
set_option maxRecDepth 100000 in
theorem C_13_172 : Cond.methodLink (zown 13) 172 yX12_inCase ∈ zws := z_at 1689 (by decide +kernel) (by decide +kernel)
set_option maxRecDepth 100000 in
theorem C_13_173 : Cond.methodLink (zown 13) 173 yL_sure ∈ zws := z_at 965 (by decide +kernel) (by decide +kernel)
set_option maxRecDepth 100000 in
theorem C_13_175 : Cond.methodLink (zown 13) 175 yX12_sure ∈ zws := z_at 1693 (by decide +kernel) (by decide +kernel)
set_option maxRecDepth 100000 in
theorem C_13_176 : Cond.methodLink (zown 13) 176 yL_where ∈ zws := z_at 995 (by decide +kernel) (by decide +kernel)
set_option maxRecDepth 100000 in
theorem C_13_178 : Cond.methodLink (zown 13) 178 yX12_where ∈ zws := z_at 1709 (by decide +kernel) (by decide +kernel)
set_option maxRecDepth 100000 in
theorem C_13_179 : Cond.methodLink (zown 13) 179 yL_misled ∈ zws := z_at 1006 (by decide +kernel) (by decide +kernel)
set_option maxRecDepth 100000 in
theorem C_13_181 : Cond.methodLink (zown 13) 181 yX12_misled ∈ zws := z_at 1713 (by decide +kernel) (by decide +kernel)
set_option maxRecDepth 100000 in
theorem C_13_182 : Cond.methodLink (zown 13) 182 yL_chance ∈ zws := z_at 1031 (by decide +kernel) (by decide +kernel)
set_option maxRecDepth 100000 in
theorem C_13_184 : Cond.methodLink (zown 13) 184 yX12_chance ∈ zws := z_at 1729 (by decide +kernel) (by decide +kernel)
set_option maxRecDepth 100000 in
theorem C_13_185 : Cond.methodLink (zown 13) 185 yL_round ∈ zws := z_at 1044 (by decide +kernel) (by decide +kernel)
set_option maxRecDepth 100000 in
theorem C_13_187 : Cond.methodLink (zown 13) 187 yX12_round ∈ zws := z_at 1737 (by decide +kernel) (by decide +kernel)
set_option maxRecDepth 100000 in
theorem C_13_188 : Cond.methodLink (zown 13) 188 yL_path ∈ zws := z_at 1085 (by decide +kernel) (by decide +kernel)
set_option maxRecDepth 100000 in
theorem C_13_190 : Cond.methodLink (zown 13) 190 yX12_path ∈ zws := z_at 1753 (by decide +kernel) (by decide +kernel)
set_option maxRecDepth 100000 in
theorem C_13_191 : Cond.methodLink (zown 13) 191 yL_rests ∈ zws := z_at 1092 (by decide +kernel) (by decide +kernel)
set_option maxRecDepth 100000 in
theorem C_13_193 : Cond.methodLink (zown 13) 193 yX12_rests ∈ zws := z_at 1757 (by decide +kernel) (by decide +kernel)
set_option maxRecDepth 100000 in
theorem C_13_194 : Cond.methodLink (zown 13) 194 yL_fewest ∈ zws := z_at 1120 (by decide +kernel) (by decide +kernel)
set_option maxRecDepth 100000 in
theorem C_13_196 : Cond.methodLink (zown 13) 196 yX12_fewest ∈ zws := z_at 1769 (by decide +kernel) (by decide +kernel)
set_option maxRecDepth 100000 in
theorem C_13_197 : Cond.methodLink (zown 13) 197 yL_lender ∈ zws := z_at 1167 (by decide +kernel) (by decide +kernel)
set_option maxRecDepth 100000 in
theorem C_13_199 : Cond.methodLink (zown 13) 199 yX12_lender ∈ zws := z_at 1789 (by decide +kernel) (by decide +kernel)
set_option maxRecDepth 100000 in
theorem C_13_200 : Cond.methodLink (zown 13) 200 yL_kinds ∈ zws := z_at 1175 (by decide +kernel) (by decide +kernel)
set_option maxRecDepth 100000 in
theorem C_13_202 : Cond.methodLink (zown 13) 202 yX12_kinds ∈ zws := z_at 1793 (by decide +kernel) (by decide +kernel)
set_option maxRecDepth 100000 in
theorem C_13_203 : Cond.methodLink (zown 13) 203 yL_word ∈ zws := z_at 1203 (by decide +kernel) (by decide +kernel)
set_option maxRecDepth 100000 in
theorem C_13_205 : Cond.methodLink (zown 13) 205 yX12_word ∈ zws := z_at 1808 (by decide +kernel) (by decide +kernel)
set_option maxRecDepth 100000 in
theorem C_13_206 : Cond.methodLink (zown 13) 206 yL_mend ∈ zws := z_at 1210 (by decide +kernel) (by decide +kernel)
set_option maxRecDepth 100000 in
theorem C_13_208 : Cond.methodLink (zown 13) 208 yX12_mend ∈ zws := z_at 1812 (by decide +kernel) (by decide +kernel)
set_option maxRecDepth 100000 in
theorem C_13_209 : Cond.methodLink (zown 13) 209 yL_fire ∈ zws := z_at 1223 (by decide +kernel) (by decide +kernel)
set_option maxRecDepth 100000 in
theorem C_13_212 : Cond.methodLink (zown 13) 212 yX12_fire ∈ zws := z_at 1816 (by decide +kernel) (by decide +kernel)
set_option maxRecDepth 100000 in
theorem C_13_213 : Cond.methodLink (zown 13) 213 yX11_image ∈ zws := z_at 524 (by decide +kernel) (by decide +kernel)
set_option maxRecDepth 100000 in
theorem C_13_216 : Cond.methodLink (zown 13) 216 yX12_image ∈ zws := z_at 1823 (by decide +kernel) (by decide +kernel)
set_option maxRecDepth 100000 in
theorem C_13_217 : Cond.methodLink (zown 13) 217 yX11_restore ∈ zws := z_at 535 (by decide +kernel) (by decide +kernel)
set_option maxRecDepth 100000 in
theorem C_13_221 : Cond.methodLink (zown 13) 221 yX12_restore ∈ zws := z_at 1827 (by decide +kernel) (by decide +kernel)
set_option maxRecDepth 100000 in
theorem C_12_140 : Cond.methodLink (zown 12) 140 yX12_lays ∈ zws := z_at 1463 (by decide +kernel) (by decide +kernel)
set_option maxRecDepth 100000 in
theorem C_12_150 : Cond.methodLink (zown 12) 150 yX12_byteAt ∈ zws := z_at 1479 (by decide +kernel) (by decide +kernel)
set_option maxRecDepth 100000 in
theorem C_12_167 : Cond.methodLink (zown 12) 167 yX12_isLetter ∈ zws := z_at 1483 (by decide +kernel) (by decide +kernel)
set_option maxRecDepth 100000 in
theorem C_12_171 : Cond.methodLink (zown 12) 171 yX12_isDigit ∈ zws := z_at 1486 (by decide +kernel) (by decide +kernel)
set_option maxRecDepth 100000 in
theorem C_12_179 : Cond.methodLink (zown 12) 179 yX12_spelled ∈ zws := z_at 1504 (by decide +kernel) (by decide +kernel)
set_option maxRecDepth 100000 in
theorem C_12_183 : Cond.methodLink (zown 12) 183 yX12_letters ∈ zws := z_at 1501 (by decide +kernel) (by decide +kernel)
set_option maxRecDepth 100000 in
theorem C_12_190 : Cond.methodLink (zown 12) 190 yX12_isGood ∈ zws := z_at 1489 (by decide +kernel) (by decide +kernel)
set_option maxRecDepth 100000 in
theorem C_12_194 : Cond.methodLink (zown 12) 194 yX12_steps ∈ zws := z_at 1475 (by decide +kernel) (by decide +kernel)
set_option maxRecDepth 100000 in
theorem C_12_197 : Cond.methodLink (zown 12) 197 yX12_wrong ∈ zws := z_at 1508 (by decide +kernel) (by decide +kernel)
set_option maxRecDepth 100000 in
theorem C_12_200 : Cond.methodLink (zown 12) 200 yX12_amongHere ∈ zws := z_at 1520 (by decide +kernel) (by decide +kernel)
set_option maxRecDepth 100000 in
theorem C_12_203 : Cond.methodLink (zown 12) 203 yX12_is ∈ zws := z_at 1497 (by decide +kernel) (by decide +kernel)
set_option maxRecDepth 100000 in
theorem C_12_215 : Cond.methodLink (zown 12) 215 yX12_among ∈ zws := z_at 1524 (by decide +kernel) (by decide +kernel)
set_option maxRecDepth 100000 in
theorem C_12_218 : Cond.methodLink (zown 12) 218 yX12_oneOf ∈ zws := z_at 1532 (by decide +kernel) (by decide +kernel)
set_option maxRecDepth 100000 in
theorem C_12_222 : Cond.methodLink (zown 12) 222 yX12_need ∈ zws := z_at 1536 (by decide +kernel) (by decide +kernel)
set_option maxRecDepth 100000 in
theorem C_12_226 : Cond.methodLink (zown 12) 226 yX12_number ∈ zws := z_at 1512 (by decide +kernel) (by decide +kernel)
set_option maxRecDepth 100000 in
theorem C_12_229 : Cond.methodLink (zown 12) 229 yX12_readsLodger ∈ zws := z_at 1516 (by decide +kernel) (by decide +kernel)
set_option maxRecDepth 100000 in
theorem C_12_235 : Cond.methodLink (zown 12) 235 yX12_readsMay ∈ zws := z_at 1528 (by decide +kernel) (by decide +kernel)
set_option maxRecDepth 100000 in
theorem C_12_241 : Cond.methodLink (zown 12) 241 yX12_right ∈ zws := z_at 1471 (by decide +kernel) (by decide +kernel)
set_option maxRecDepth 100000 in
theorem C_12_245 : Cond.methodLink (zown 12) 245 yX12_line ∈ zws := z_at 1493 (by decide +kernel) (by decide +kernel)
set_option maxRecDepth 100000 in
theorem C_12_260 : Cond.methodLink (zown 12) 260 yX12_copies ∈ zws := z_at 1540 (by decide +kernel) (by decide +kernel)
set_option maxRecDepth 100000 in
theorem C_12_280 : Cond.methodLink (zown 12) 280 yX12_lowest ∈ zws := z_at 1544 (by decide +kernel) (by decide +kernel)
set_option maxRecDepth 100000 in
theorem C_12_283 : Cond.methodLink (zown 12) 283 yX12_within ∈ zws := z_at 1555 (by decide +kernel) (by decide +kernel)
set_option maxRecDepth 100000 in
theorem C_12_287 : Cond.methodLink (zown 12) 287 yX12_isRoom ∈ zws := z_at 1562 (by decide +kernel) (by decide +kernel)
set_option maxRecDepth 100000 in
theorem C_12_290 : Cond.methodLink (zown 12) 290 yX12_isTwo ∈ zws := z_at 1566 (by decide +kernel) (by decide +kernel)
set_option maxRecDepth 100000 in
theorem C_12_293 : Cond.methodLink (zown 12) 293 yX12_has ∈ zws := z_at 1578 (by decide +kernel) (by decide +kernel)
set_option maxRecDepth 100000 in
theorem C_12_296 : Cond.methodLink (zown 12) 296 yX12_lawOf ∈ zws := z_at 1604 (by decide +kernel) (by decide +kernel)
set_option maxRecDepth 100000 in
theorem C_12_299 : Cond.methodLink (zown 12) 299 yX12_both ∈ zws := z_at 1608 (by decide +kernel) (by decide +kernel)
set_option maxRecDepth 100000 in
theorem C_12_302 : Cond.methodLink (zown 12) 302 yX12_isLodger ∈ zws := z_at 1574 (by decide +kernel) (by decide +kernel)
set_option maxRecDepth 100000 in
theorem C_12_305 : Cond.methodLink (zown 12) 305 yX12_isHour ∈ zws := z_at 1586 (by decide +kernel) (by decide +kernel)
set_option maxRecDepth 100000 in
theorem C_12_308 : Cond.methodLink (zown 12) 308 yX12_bits ∈ zws := z_at 1590 (by decide +kernel) (by decide +kernel)
set_option maxRecDepth 100000 in
theorem C_12_311 : Cond.methodLink (zown 12) 311 yX12_toldOf ∈ zws := z_at 1593 (by decide +kernel) (by decide +kernel)
set_option maxRecDepth 100000 in
theorem C_12_314 : Cond.methodLink (zown 12) 314 yX12_signOf ∈ zws := z_at 1600 (by decide +kernel) (by decide +kernel)
set_option maxRecDepth 100000 in
theorem C_12_317 : Cond.methodLink (zown 12) 317 yX12_refuses ∈ zws := z_at 1616 (by decide +kernel) (by decide +kernel)
set_option maxRecDepth 100000 in
theorem C_12_321 : Cond.methodLink (zown 12) 321 yX12_signAt ∈ zws := z_at 1637 (by decide +kernel) (by decide +kernel)
set_option maxRecDepth 100000 in
theorem C_12_324 : Cond.methodLink (zown 12) 324 yX12_isFinder ∈ zws := z_at 1645 (by decide +kernel) (by decide +kernel)
set_option maxRecDepth 100000 in
theorem C_12_327 : Cond.methodLink (zown 12) 327 yX12_behind ∈ zws := z_at 1685 (by decide +kernel) (by decide +kernel)
set_option maxRecDepth 100000 in
theorem C_12_334 : Cond.methodLink (zown 12) 334 yX12_fits ∈ zws := z_at 1677 (by decide +kernel) (by decide +kernel)
set_option maxRecDepth 100000 in
theorem C_12_338 : Cond.methodLink (zown 12) 338 yX12_counts ∈ zws := z_at 1681 (by decide +kernel) (by decide +kernel)
set_option maxRecDepth 100000 in
theorem C_12_341 : Cond.methodLink (zown 12) 341 yX12_hour ∈ zws := z_at 1665 (by decide +kernel) (by decide +kernel)
set_option maxRecDepth 100000 in
theorem C_12_345 : Cond.methodLink (zown 12) 345 yX12_isSpent ∈ zws := z_at 1669 (by decide +kernel) (by decide +kernel)
set_option maxRecDepth 100000 in
theorem C_12_348 : Cond.methodLink (zown 12) 348 yX12_seeks ∈ zws := z_at 1673 (by decide +kernel) (by decide +kernel)
set_option maxRecDepth 100000 in
theorem C_12_352 : Cond.methodLink (zown 12) 352 yX12_roomOf ∈ zws := z_at 1705 (by decide +kernel) (by decide +kernel)
set_option maxRecDepth 100000 in
theorem C_12_355 : Cond.methodLink (zown 12) 355 yX12_isSomebody ∈ zws := z_at 1701 (by decide +kernel) (by decide +kernel)
set_option maxRecDepth 100000 in
theorem C_12_359 : Cond.methodLink (zown 12) 359 yX12_with ∈ zws := z_at 1697 (by decide +kernel) (by decide +kernel)
set_option maxRecDepth 100000 in
theorem C_12_362 : Cond.methodLink (zown 12) 362 yX12_another ∈ zws := z_at 1721 (by decide +kernel) (by decide +kernel)
set_option maxRecDepth 100000 in
theorem C_12_365 : Cond.methodLink (zown 12) 365 yX12_turnsDoors ∈ zws := z_at 1725 (by decide +kernel) (by decide +kernel)
set_option maxRecDepth 100000 in
theorem C_12_368 : Cond.methodLink (zown 12) 368 yX12_misleads ∈ zws := z_at 1717 (by decide +kernel) (by decide +kernel)
set_option maxRecDepth 100000 in
theorem C_12_371 : Cond.methodLink (zown 12) 371 yX12_chanceOf ∈ zws := z_at 1733 (by decide +kernel) (by decide +kernel)
set_option maxRecDepth 100000 in
theorem C_12_374 : Cond.methodLink (zown 12) 374 yX12_bestOf ∈ zws := z_at 1745 (by decide +kernel) (by decide +kernel)
set_option maxRecDepth 100000 in
theorem C_12_377 : Cond.methodLink (zown 12) 377 yX12_all ∈ zws := z_at 1741 (by decide +kernel) (by decide +kernel)
set_option maxRecDepth 100000 in
theorem C_12_380 : Cond.methodLink (zown 12) 380 yX12_turnsPath ∈ zws := z_at 1749 (by decide +kernel) (by decide +kernel)
set_option maxRecDepth 100000 in
theorem C_12_383 : Cond.methodLink (zown 12) 383 yX12_there ∈ zws := z_at 1765 (by decide +kernel) (by decide +kernel)
set_option maxRecDepth 100000 in
theorem C_12_386 : Cond.methodLink (zown 12) 386 yX12_isRest ∈ zws := z_at 1761 (by decide +kernel) (by decide +kernel)
set_option maxRecDepth 100000 in
theorem C_12_395 : Cond.methodLink (zown 12) 395 yX12_isFree ∈ zws := z_at 1781 (by decide +kernel) (by decide +kernel)
set_option maxRecDepth 100000 in
theorem C_12_398 : Cond.methodLink (zown 12) 398 yX12_given ∈ zws := z_at 1785 (by decide +kernel) (by decide +kernel)
set_option maxRecDepth 100000 in
theorem C_12_401 : Cond.methodLink (zown 12) 401 yX12_isNeedy ∈ zws := z_at 1773 (by decide +kernel) (by decide +kernel)
set_option maxRecDepth 100000 in
theorem C_12_404 : Cond.methodLink (zown 12) 404 yX12_lendable ∈ zws := z_at 1777 (by decide +kernel) (by decide +kernel)
set_option maxRecDepth 100000 in
theorem C_12_410 : Cond.methodLink (zown 12) 410 yX12_apart ∈ zws := z_at 1805 (by decide +kernel) (by decide +kernel)
set_option maxRecDepth 100000 in
theorem C_12_413 : Cond.methodLink (zown 12) 413 yX12_isCode ∈ zws := z_at 1797 (by decide +kernel) (by decide +kernel)
set_option maxRecDepth 100000 in
theorem C_12_416 : Cond.methodLink (zown 12) 416 yX12_spells ∈ zws := z_at 1801 (by decide +kernel) (by decide +kernel)
set_option maxRecDepth 100000 in
theorem C_12_419 : Cond.methodLink (zown 12) 419 yX12_off ∈ zws := z_at 1820 (by decide +kernel) (by decide +kernel)
