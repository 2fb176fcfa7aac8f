def lw_tb : Nat → List Cond
  | 0 => k2_sels lw_privs
  | 1 => tables_1_1
  | 2 => tables_1_2
  | 3 => tables_1_3
  | 4 => tables_1_4
  | 5 => tables_1_5
  | 6 => tables_1_6
  | 7 => tables_1_7
  | 8 => tables_1_8
  | 9 => tables_1_9
  | 10 => tables_1_10
  | 11 => tables_1_11
  | 12 => tables_1_12
  | 13 => tables_1_13
  | 14 => tables_1_14
  | 15 => tables_1_15
  | _ => []
theorem lw_tb_in : ∀ (k : Nat) (w : Cond), w ∈ lw_tb k → w ∈ lw_tbl
  | 0, _, h => List.mem_append_left _ h
  | 1, _, h => List.mem_append_right _ (List.mem_append_left _ h)
  | 2, _, h => List.mem_append_right _ (List.mem_append_right _ (List.mem_append_left _ h))
  | 3, _, h => List.mem_append_right _ (List.mem_append_right _ (List.mem_append_right _ (List.mem_append_left _ h)))
  | 4, _, h => List.mem_append_right _ (List.mem_append_right _ (List.mem_append_right _ (List.mem_append_right _ (List.mem_append_left _ h))))
  | 5, _, h => List.mem_append_right _ (List.mem_append_right _ (List.mem_append_right _ (List.mem_append_right _ (List.mem_append_right _ (List.mem_append_left _ h)))))
  | 6, _, h => List.mem_append_right _ (List.mem_append_right _ (List.mem_append_right _ (List.mem_append_right _ (List.mem_append_right _ (List.mem_append_right _ (List.mem_append_left _ h))))))
  | 7, _, h => List.mem_append_right _ (List.mem_append_right _ (List.mem_append_right _ (List.mem_append_right _ (List.mem_append_right _ (List.mem_append_right _ (List.mem_append_right _ (List.mem_append_left _ h)))))))
  | 8, _, h => List.mem_append_right _ (List.mem_append_right _ (List.mem_append_right _ (List.mem_append_right _ (List.mem_append_right _ (List.mem_append_right _ (List.mem_append_right _ (List.mem_append_right _ (List.mem_append_left _ h))))))))
  | 9, _, h => List.mem_append_right _ (List.mem_append_right _ (List.mem_append_right _ (List.mem_append_right _ (List.mem_append_right _ (List.mem_append_right _ (List.mem_append_right _ (List.mem_append_right _ (List.mem_append_right _ (List.mem_append_left _ h)))))))))
  | 10, _, h => List.mem_append_right _ (List.mem_append_right _ (List.mem_append_right _ (List.mem_append_right _ (List.mem_append_right _ (List.mem_append_right _ (List.mem_append_right _ (List.mem_append_right _ (List.mem_append_right _ (List.mem_append_right _ (List.mem_append_left _ h))))))))))
  | 11, _, h => List.mem_append_right _ (List.mem_append_right _ (List.mem_append_right _ (List.mem_append_right _ (List.mem_append_right _ (List.mem_append_right _ (List.mem_append_right _ (List.mem_append_right _ (List.mem_append_right _ (List.mem_append_right _ (List.mem_append_right _ (List.mem_append_left _ h)))))))))))
  | 12, _, h => List.mem_append_right _ (List.mem_append_right _ (List.mem_append_right _ (List.mem_append_right _ (List.mem_append_right _ (List.mem_append_right _ (List.mem_append_right _ (List.mem_append_right _ (List.mem_append_right _ (List.mem_append_right _ (List.mem_append_right _ (List.mem_append_right _ (List.mem_append_left _ h))))))))))))
  | 13, _, h => List.mem_append_right _ (List.mem_append_right _ (List.mem_append_right _ (List.mem_append_right _ (List.mem_append_right _ (List.mem_append_right _ (List.mem_append_right _ (List.mem_append_right _ (List.mem_append_right _ (List.mem_append_right _ (List.mem_append_right _ (List.mem_append_right _ (List.mem_append_right _ (List.mem_append_left _ h)))))))))))))
  | 14, _, h => List.mem_append_right _ (List.mem_append_right _ (List.mem_append_right _ (List.mem_append_right _ (List.mem_append_right _ (List.mem_append_right _ (List.mem_append_right _ (List.mem_append_right _ (List.mem_append_right _ (List.mem_append_right _ (List.mem_append_right _ (List.mem_append_right _ (List.mem_append_right _ (List.mem_append_right _ (List.mem_append_left _ h))))))))))))))
  | 15, _, h => List.mem_append_right _ (List.mem_append_right _ (List.mem_append_right _ (List.mem_append_right _ (List.mem_append_right _ (List.mem_append_right _ (List.mem_append_right _ (List.mem_append_right _ (List.mem_append_right _ (List.mem_append_right _ (List.mem_append_right _ (List.mem_append_right _ (List.mem_append_right _ (List.mem_append_right _ (List.mem_append_right _ (h)))))))))))))))
  | _ + 16, _, h => absurd h List.not_mem_nil
theorem memp (ws : List Cond) (ps : List (Nat × Nat)) (hp : ws = ps.filterMap (fun q => (lw_tb q.1)[q.2]?)) : ∀ w ∈ ws, w ∈ lw_tbl := by
  intro w hw
  rw [hp] at hw
  obtain ⟨q, -, hi⟩ := List.mem_filterMap.mp hw
  exact lw_tb_in q.1 w (List.mem_of_getElem? hi)
abbrev cL_law : ByteArray := code
def o_law : List Cond := [.classLink RL 8 RX11, .instantiable RX11 17, .initialized RX11, .methodLink RL 60 yX11_init, .instanceMethod yX11_init, .classLink RL 61 RX19, .instantiable RX19 41, .initialized RX19, .methodLink RL 63 yX19_init, .instanceMethod yX19_init, .arrayClass .long, .methodLink RL 64 yL_feed, .static yL_feed, .initialized RL, .methodLink RL 69 yX19_feed, .instanceMethod yX19_feed, .selects RX19 yX19_feed yX19_feed, .methodLink RL 70 yX19_thrown, .instanceMethod yX19_thrown, .selects RX19 yX19_thrown yX19_thrown, .methodLink RL 73 yL_end, .static yL_end, .methodLink RL 76 yX19_end, .instanceMethod yX19_end, .selects RX19 yX19_end yX19_end, .methodLink RL 77 yX11_text, .instanceMethod yX11_text, .selects RX11 yX11_text yX11_text, .methodLink RL 80 yX19_text, .instanceMethod yX19_text, .selects RX19 yX19_text yX19_text, .methodLink RL 81 yX11_input, .instanceMethod yX11_input, .selects RX11 yX11_input yX11_input, .methodLink RL 84 yX19_input, .instanceMethod yX19_input, .selects RX19 yX19_input yX19_input, .methodLink RL 85 yL_ssa, .static yL_ssa, .methodLink RL 88 yX19_ssa, .instanceMethod yX19_ssa, .selects RX19 yX19_ssa yX19_ssa, .methodLink RL 89 yL_pass, .static yL_pass, .methodLink RL 91 yX19_pass, .instanceMethod yX19_pass, .selects RX19 yX19_pass yX19_pass, .methodLink RL 92 yL_plain, .static yL_plain, .methodLink RL 94 yX19_plain, .instanceMethod yX19_plain, .selects RX19 yX19_plain yX19_plain, .methodLink RL 95 yL_run, .static yL_run, .methodLink RL 97 yX19_run_, .instanceMethod yX19_run_, .selects RX19 yX19_run_ yX19_run_, .methodLink RL 98 yL_told, .static yL_told, .methodLink RL 100 yX19_told, .instanceMethod yX19_told, .selects RX19 yX19_told yX19_told, .methodLink RL 101 yL_shown, .static yL_shown, .methodLink RL 103 yX19_shown, .instanceMethod yX19_shown, .selects RX19 yX19_shown yX19_shown, .methodLink RL 104 yL_count, .static yL_count, .methodLink RL 106 yX19_count, .instanceMethod yX19_count, .selects RX19 yX19_count yX19_count, .methodLink RL 107 yL_block, .static yL_block, .methodLink RL 110 yX19_block, .instanceMethod yX19_block, .selects RX19 yX19_block yX19_block, .methodLink RL 111 yL_list, .static yL_list, .methodLink RL 113 yX19_list__, .instanceMethod yX19_list__, .selects RX19 yX19_list__ yX19_list__, .methodLink RL 114 yL_word, .static yL_word, .methodLink RL 116 yX19_word_, .instanceMethod yX19_word_, .selects RX19 yX19_word_ yX19_word_]
set_option maxRecDepth 100000 in
theorem mow_law : ∀ w ∈ o_law, w ∈ lw_tbl := memp _ [(1, 48), (1, 49), (1, 1), (1, 50), (1, 51), (8, 180), (8, 181), (1, 13), (8, 182), (8, 183), (2, 4), (4, 194), (4, 195), (1, 0), (9, 217), (9, 218), (9, 219), (9, 213), (9, 214), (9, 215), (5, 38), (5, 39), (9, 229), (9, 230), (9, 231), (3, 207), (3, 208), (3, 209), (9, 233), (9, 234), (9, 235), (4, 186), (4, 187), (4, 188), (12, 172), (12, 173), (12, 174), (5, 62), (5, 63), (12, 176), (12, 177), (12, 178), (6, 101), (6, 102), (13, 166), (13, 167), (13, 168), (7, 122), (7, 123), (14, 92), (14, 93), (14, 94), (7, 183), (7, 184), (14, 130), (14, 131), (14, 132), (7, 235), (7, 236), (14, 151), (14, 152), (14, 153), (8, 3), (8, 4), (14, 155), (14, 156), (14, 157), (8, 11), (8, 12), (14, 159), (14, 160), (14, 161), (8, 43), (8, 44), (14, 171), (14, 172), (14, 173), (8, 79), (8, 80), (14, 188), (14, 189), (14, 190), (8, 168), (8, 169), (15, 56), (15, 57), (15, 58)] (by decide +kernel)
set_option maxRecDepth 100000 in
theorem il_X0 : ∀ w ∈ wsX00, w ∈ lw_tbl := memp _ [(1, 203), (1, 205), (1, 207), (1, 209), (1, 211), (1, 213), (1, 215), (1, 217), (1, 219), (1, 221), (1, 223), (1, 225), (1, 227), (1, 229), (1, 231), (1, 233), (1, 235), (1, 237), (1, 239)] (by decide +kernel)
set_option maxRecDepth 100000 in
theorem il_X1 : ∀ w ∈ wsX10, w ∈ lw_tbl := memp _ [(2, 207), (2, 209), (2, 211), (2, 213), (2, 215), (2, 217)] (by decide +kernel)
set_option maxRecDepth 100000 in
theorem il_X2 : ∀ w ∈ wsX20, w ∈ lw_tbl := memp _ [(2, 36), (2, 38), (2, 40), (2, 42), (2, 44), (2, 46), (2, 48), (2, 50), (2, 52), (2, 54), (2, 56), (2, 58), (2, 60)] (by decide +kernel)
set_option maxRecDepth 100000 in
theorem il_X3 : ∀ w ∈ wsX30, w ∈ lw_tbl := memp _ [(2, 231), (2, 233), (2, 235), (2, 237), (2, 239)] (by decide +kernel)
set_option maxRecDepth 100000 in
theorem il_X4 : ∀ w ∈ wsX40, w ∈ lw_tbl := memp _ [(2, 84), (2, 86), (2, 88), (2, 90), (2, 92), (2, 94), (2, 96), (2, 98)] (by decide +kernel)
set_option maxRecDepth 100000 in
theorem il_X5 : ∀ w ∈ wsX50, w ∈ lw_tbl := memp _ [(3, 109), (3, 111), (3, 113), (3, 115), (3, 117), (3, 119), (3, 121), (3, 123), (3, 125), (3, 127), (3, 129)] (by decide +kernel)
set_option maxRecDepth 100000 in
theorem il_X6 : ∀ w ∈ wsX60, w ∈ lw_tbl := memp _ [(3, 144), (3, 146), (3, 148), (3, 150), (3, 152)] (by decide +kernel)
set_option maxRecDepth 100000 in
theorem il_X7 : ∀ w ∈ wsX70, w ∈ lw_tbl := memp _ [(2, 126), (2, 128), (2, 130), (2, 132), (2, 134), (2, 136), (2, 138), (2, 140), (2, 142), (2, 144), (2, 146), (2, 148), (2, 150), (2, 152), (2, 154), (2, 156), (2, 158), (2, 160)] (by decide +kernel)
set_option maxRecDepth 100000 in
theorem il_X8 : ∀ w ∈ wsX80, w ∈ lw_tbl := memp _ [(2, 177), (2, 179), (2, 181), (2, 183), (2, 185), (2, 187), (2, 189), (2, 191)] (by decide +kernel)
set_option maxRecDepth 100000 in
theorem il_X9 : ∀ w ∈ wsX90, w ∈ lw_tbl := memp _ [(3, 17), (3, 19), (3, 21), (3, 23), (3, 25), (3, 27), (3, 29), (3, 31), (3, 33)] (by decide +kernel)
set_option maxRecDepth 100000 in
theorem il_X10 : ∀ w ∈ wsX100, w ∈ lw_tbl := memp _ [(3, 56), (3, 58), (3, 60), (3, 62), (3, 64), (3, 66), (3, 68), (3, 70), (3, 72), (3, 74), (3, 76), (3, 78), (3, 80), (3, 82)] (by decide +kernel)
set_option maxRecDepth 100000 in
theorem il_X11 : ∀ w ∈ wsX110, w ∈ lw_tbl := memp _ [(3, 172), (3, 174), (3, 176), (3, 178), (3, 180), (3, 182), (3, 184), (3, 186), (3, 188), (3, 190), (3, 192), (3, 194), (3, 196), (3, 198), (3, 200), (3, 202), (3, 204)] (by decide +kernel)
set_option maxRecDepth 100000 in
theorem il_X13 : ∀ w ∈ wsX130, w ∈ lw_tbl := memp _ [(9, 41), (9, 43), (9, 45), (9, 47), (9, 49), (9, 51), (9, 53)] (by decide +kernel)
set_option maxRecDepth 100000 in
theorem il_X14 : ∀ w ∈ wsX140, w ∈ lw_tbl := memp _ [(8, 214), (8, 216), (8, 218), (8, 220), (8, 222), (8, 224), (8, 226), (8, 228), (8, 230), (8, 232), (8, 234), (8, 236), (8, 238)] (by decide +kernel)
set_option maxRecDepth 100000 in
theorem il_X16 : ∀ w ∈ wsX160, w ∈ lw_tbl := memp _ [(11, 82), (11, 84), (11, 86), (11, 88), (11, 90), (11, 92), (11, 94), (11, 96), (11, 98), (11, 100), (11, 102), (11, 104), (11, 106), (11, 108)] (by decide +kernel)
set_option maxRecDepth 100000 in
theorem il_X18 : ∀ w ∈ wsX180, w ∈ lw_tbl := memp _ [(11, 139), (11, 140), (11, 141), (11, 142), (11, 143), (11, 160), (11, 158)] (by decide +kernel)
set_option maxRecDepth 100000 in
theorem il_X19 : ∀ w ∈ wsX190, w ∈ lw_tbl := memp _ [(9, 130), (9, 132), (9, 134), (9, 136), (9, 138), (9, 140), (9, 142), (9, 144), (9, 146), (9, 148), (9, 150), (9, 152), (9, 154), (9, 156), (9, 158), (9, 160), (9, 162), (9, 164), (9, 166), (9, 168), (9, 170), (9, 172), (9, 174), (9, 176), (9, 178), (9, 180), (9, 182), (9, 184), (9, 186), (9, 188), (9, 190), (9, 192), (9, 194), (9, 196), (9, 198), (9, 200), (9, 202), (9, 204), (9, 206), (9, 208), (9, 210)] (by decide +kernel)
set_option maxRecDepth 100000 in
theorem il_J4 : ∀ w ∈ wsJ40, w ∈ lw_tbl := memp _ [(9, 80), (9, 82), (9, 84), (9, 86)] (by decide +kernel)
set_option maxRecDepth 100000 in
theorem il_Jx4a65c : ∀ w ∈ wsJx4a65c0, w ∈ lw_tbl := memp _ [(9, 30), (9, 26), (9, 28)] (by decide +kernel)
set_option maxRecDepth 100000 in
theorem mlo_X0_init : ∀ w ∈ o_X0_init, w ∈ lw_tbl := memp _ [(1, 61), (1, 54), (1, 55), (1, 62), (1, 71), (1, 76), (1, 81), (2, 3), (1, 84), (1, 93), (1, 99), (2, 4), (1, 108), (1, 117), (1, 126), (1, 132), (1, 141), (1, 147), (1, 153), (1, 160), (1, 167), (1, 176), (1, 185), (1, 194)] (by decide +kernel)
theorem mlv_X0_init : ∀ w ∈ v_X0_init, w ∈ lw_tbl := fun w h => (List.mem_cons.mp h).elim (fun e => by rw [e]; exact lw_tb_in 1 _ (List.mem_of_getElem? (i := 60) (by decide +kernel))) (fun h => (List.mem_append.mp h).elim (mlo_X0_init w) (fun h => (List.mem_append.mp h).elim (il_X0 w) (fun h => absurd h List.not_mem_nil)))
set_option maxRecDepth 100000 in
theorem mlo_X1_init : ∀ w ∈ o_X1_init, w ∈ lw_tbl := memp _ [(2, 199), (1, 54), (1, 55), (2, 63), (2, 200), (2, 202), (2, 203), (2, 3), (2, 204), (2, 4), (2, 205), (2, 206)] (by decide +kernel)
theorem mlv_X1_init : ∀ w ∈ v_X1_init, w ∈ lw_tbl := fun w h => (List.mem_cons.mp h).elim (fun e => by rw [e]; exact lw_tb_in 2 _ (List.mem_of_getElem? (i := 198) (by decide +kernel))) (fun h => (List.mem_append.mp h).elim (mlo_X1_init w) (fun h => (List.mem_append.mp h).elim (il_X1 w) (fun h => absurd h List.not_mem_nil)))
set_option maxRecDepth 100000 in
theorem mlo_X2_init : ∀ w ∈ o_X2_init, w ∈ lw_tbl := memp _ [(2, 10), (1, 54), (1, 55), (2, 11), (2, 3), (2, 16), (2, 20), (2, 63), (2, 25), (2, 27), (2, 28), (2, 4), (2, 29), (2, 30), (2, 31), (2, 32), (2, 33), (2, 34), (2, 35)] (by decide +kernel)
theorem mlv_X2_init : ∀ w ∈ v_X2_init, w ∈ lw_tbl := fun w h => (List.mem_cons.mp h).elim (fun e => by rw [e]; exact lw_tb_in 2 _ (List.mem_of_getElem? (i := 9) (by decide +kernel))) (fun h => (List.mem_append.mp h).elim (mlo_X2_init w) (fun h => (List.mem_append.mp h).elim (il_X2 w) (fun h => absurd h List.not_mem_nil)))
set_option maxRecDepth 100000 in
theorem mlo_X3_init : ∀ w ∈ o_X3_init, w ∈ lw_tbl := memp _ [(2, 225), (1, 54), (1, 55), (2, 4), (2, 226), (2, 3), (2, 227), (2, 228), (2, 229), (2, 230)] (by decide +kernel)
theorem mlv_X3_init : ∀ w ∈ v_X3_init, w ∈ lw_tbl := fun w h => (List.mem_cons.mp h).elim (fun e => by rw [e]; exact lw_tb_in 2 _ (List.mem_of_getElem? (i := 224) (by decide +kernel))) (fun h => (List.mem_append.mp h).elim (mlo_X3_init w) (fun h => (List.mem_append.mp h).elim (il_X3 w) (fun h => absurd h List.not_mem_nil)))
set_option maxRecDepth 100000 in
theorem mlo_X4_init : ∀ w ∈ o_X4_init, w ∈ lw_tbl := memp _ [(2, 69), (1, 54), (1, 55), (2, 70), (2, 4), (2, 73), (2, 76), (2, 78), (2, 80), (2, 81), (2, 82), (2, 83)] (by decide +kernel)
theorem mlv_X4_init : ∀ w ∈ v_X4_init, w ∈ lw_tbl := fun w h => (List.mem_cons.mp h).elim (fun e => by rw [e]; exact lw_tb_in 2 _ (List.mem_of_getElem? (i := 68) (by decide +kernel))) (fun h => (List.mem_append.mp h).elim (mlo_X4_init w) (fun h => (List.mem_append.mp h).elim (il_X4 w) (fun h => absurd h List.not_mem_nil)))
set_option maxRecDepth 100000 in
theorem mlo_X8_init : ∀ w ∈ o_X8_init, w ∈ lw_tbl := memp _ [(2, 168), (1, 54), (1, 55), (2, 4), (2, 169), (2, 3), (2, 170), (2, 171), (2, 172), (2, 173), (2, 174), (2, 175), (2, 176)] (by decide +kernel)
theorem mlv_X8_init : ∀ w ∈ v_X8_init, w ∈ lw_tbl := fun w h => (List.mem_cons.mp h).elim (fun e => by rw [e]; exact lw_tb_in 2 _ (List.mem_of_getElem? (i := 167) (by decide +kernel))) (fun h => (List.mem_append.mp h).elim (mlo_X8_init w) (fun h => (List.mem_append.mp h).elim (il_X8 w) (fun h => absurd h List.not_mem_nil)))
set_option maxRecDepth 100000 in
theorem mlo_X9_init : ∀ w ∈ o_X9_init, w ∈ lw_tbl := memp _ [(3, 7), (1, 54), (1, 55), (2, 63), (3, 8), (2, 3), (3, 9), (3, 10), (3, 11), (3, 12), (3, 13), (2, 4), (3, 14), (3, 15), (3, 16)] (by decide +kernel)
theorem mlv_X9_init : ∀ w ∈ v_X9_init, w ∈ lw_tbl := fun w h => (List.mem_cons.mp h).elim (fun e => by rw [e]; exact lw_tb_in 3 _ (List.mem_of_getElem? (i := 6) (by decide +kernel))) (fun h => (List.mem_append.mp h).elim (mlo_X9_init w) (fun h => (List.mem_append.mp h).elim (il_X9 w) (fun h => absurd h List.not_mem_nil)))
set_option maxRecDepth 100000 in
theorem mlo_X10_init : ∀ w ∈ o_X10_init, w ∈ lw_tbl := memp _ [(3, 41), (1, 54), (1, 55), (2, 3), (3, 42), (3, 43), (3, 44), (2, 4), (3, 45), (3, 46), (3, 47), (3, 48), (2, 63), (3, 49), (3, 50), (3, 51), (3, 52), (3, 53), (3, 54), (3, 55)] (by decide +kernel)
theorem mlv_X10_init : ∀ w ∈ v_X10_init, w ∈ lw_tbl := fun w h => (List.mem_cons.mp h).elim (fun e => by rw [e]; exact lw_tb_in 3 _ (List.mem_of_getElem? (i := 40) (by decide +kernel))) (fun h => (List.mem_append.mp h).elim (mlo_X10_init w) (fun h => (List.mem_append.mp h).elim (il_X10 w) (fun h => absurd h List.not_mem_nil)))
set_option maxRecDepth 100000 in
theorem mlo_X5_init : ∀ w ∈ o_X5_init, w ∈ lw_tbl := memp _ [(3, 90), (1, 54), (1, 55), (3, 91), (3, 93), (3, 95), (3, 97), (3, 99), (3, 101), (2, 3), (3, 103), (3, 105), (3, 106), (3, 107), (3, 108)] (by decide +kernel)
theorem mlv_X5_init : ∀ w ∈ v_X5_init, w ∈ lw_tbl := fun w h => (List.mem_cons.mp h).elim (fun e => by rw [e]; exact lw_tb_in 3 _ (List.mem_of_getElem? (i := 89) (by decide +kernel))) (fun h => (List.mem_append.mp h).elim (mlo_X5_init w) (fun h => (List.mem_append.mp h).elim (il_X5 w) (fun h => absurd h List.not_mem_nil)))
set_option maxRecDepth 100000 in
theorem mlo_X6_init : ∀ w ∈ o_X6_init, w ∈ lw_tbl := memp _ [(3, 137), (1, 54), (1, 55), (3, 138), (2, 2), (3, 140), (2, 3), (3, 141), (3, 142), (3, 143)] (by decide +kernel)
theorem mlv_X6_init : ∀ w ∈ v_X6_init, w ∈ lw_tbl := fun w h => (List.mem_cons.mp h).elim (fun e => by rw [e]; exact lw_tb_in 3 _ (List.mem_of_getElem? (i := 136) (by decide +kernel))) (fun h => (List.mem_append.mp h).elim (mlo_X6_init w) (fun h => (List.mem_append.mp h).elim (il_X6 w) (fun h => absurd h List.not_mem_nil)))
set_option maxRecDepth 100000 in
theorem mlo_X7_init : ∀ w ∈ o_X7_init, w ∈ lw_tbl := memp _ [(2, 106), (1, 54), (1, 55), (2, 107), (2, 2), (2, 109), (2, 110), (2, 111), (2, 112), (2, 113), (2, 114), (2, 115), (2, 116), (2, 117), (2, 118), (2, 119), (2, 120), (2, 121), (2, 122), (2, 123), (2, 63), (2, 124), (2, 3), (2, 125)] (by decide +kernel)
theorem mlv_X7_init : ∀ w ∈ v_X7_init, w ∈ lw_tbl := fun w h => (List.mem_cons.mp h).elim (fun e => by rw [e]; exact lw_tb_in 2 _ (List.mem_of_getElem? (i := 105) (by decide +kernel))) (fun h => (List.mem_append.mp h).elim (mlo_X7_init w) (fun h => (List.mem_append.mp h).elim (il_X7 w) (fun h => absurd h List.not_mem_nil)))
set_option maxRecDepth 100000 in
theorem mlo_X11_init : ∀ w ∈ o_X11_init, w ∈ lw_tbl := memp _ [(1, 53), (1, 54), (1, 55), (2, 2), (3, 155), (3, 156), (3, 157), (1, 56), (1, 57), (1, 2), (1, 59), (3, 158), (3, 159), (2, 5), (2, 6), (1, 3), (2, 8), (3, 160), (3, 161), (2, 64), (2, 65), (1, 4), (2, 67), (3, 162), (3, 163), (2, 101), (2, 102), (1, 5), (2, 104), (3, 164), (2, 163), (2, 164), (1, 6), (2, 166), (3, 165), (2, 194), (2, 195), (1, 7), (2, 197), (3, 166), (2, 220), (2, 221), (1, 8), (2, 223), (3, 167), (3, 2), (3, 3), (1, 9), (3, 5), (3, 168), (3, 36), (3, 37), (1, 10), (3, 39), (3, 169), (3, 85), (3, 86), (1, 11), (3, 88), (3, 170), (3, 132), (3, 133), (1, 12), (3, 135), (3, 171)] (by decide +kernel)
theorem mlv_X11_init : ∀ w ∈ v_X11_init, w ∈ lw_tbl := fun w h => (List.mem_cons.mp h).elim (fun e => by rw [e]; exact lw_tb_in 1 _ (List.mem_of_getElem? (i := 52) (by decide +kernel))) (fun h => (List.mem_append.mp h).elim (mlo_X11_init w) (fun h => (List.mem_append.mp h).elim (il_X11 w) (fun h => (List.mem_append.mp h).elim (il_X0 w) (fun h => (List.mem_append.mp h).elim (mlv_X0_init w) (fun h => (List.mem_append.mp h).elim (il_X2 w) (fun h => (List.mem_append.mp h).elim (mlv_X2_init w) (fun h => (List.mem_append.mp h).elim (il_X4 w) (fun h => (List.mem_append.mp h).elim (mlv_X4_init w) (fun h => (List.mem_append.mp h).elim (il_X7 w) (fun h => (List.mem_append.mp h).elim (mlv_X7_init w) (fun h => (List.mem_append.mp h).elim (il_X8 w) (fun h => (List.mem_append.mp h).elim (mlv_X8_init w) (fun h => (List.mem_append.mp h).elim (il_X1 w) (fun h => (List.mem_append.mp h).elim (mlv_X1_init w) (fun h => (List.mem_append.mp h).elim (il_X3 w) (fun h => (List.mem_append.mp h).elim (mlv_X3_init w) (fun h => (List.mem_append.mp h).elim (il_X9 w) (fun h => (List.mem_append.mp h).elim (mlv_X9_init w) (fun h => (List.mem_append.mp h).elim (il_X10 w) (fun h => (List.mem_append.mp h).elim (mlv_X10_init w) (fun h => (List.mem_append.mp h).elim (il_X5 w) (fun h => (List.mem_append.mp h).elim (mlv_X5_init w) (fun h => (List.mem_append.mp h).elim (il_X6 w) (fun h => (List.mem_append.mp h).elim (mlv_X6_init w) (fun h => absurd h List.not_mem_nil)))))))))))))))))))))))))
set_option maxRecDepth 100000 in
theorem mlo_X11_put0 : ∀ w ∈ o_X11_put0, w ∈ lw_tbl := memp _ [(3, 155), (3, 156)] (by decide +kernel)
theorem mlv_X11_put0 : ∀ w ∈ v_X11_put0, w ∈ lw_tbl := fun w h => (List.mem_cons.mp h).elim (fun e => by rw [e]; exact lw_tb_in 5 _ (List.mem_of_getElem? (i := 37) (by decide +kernel))) (fun h => (List.mem_append.mp h).elim (mlo_X11_put0 w) (fun h => (List.mem_append.mp h).elim (il_X11 w) (fun h => absurd h List.not_mem_nil)))
set_option maxRecDepth 100000 in
theorem mlo_X11_put4 : ∀ w ∈ o_X11_put4, w ∈ lw_tbl := memp _ [(3, 155), (3, 156)] (by decide +kernel)
theorem mlv_X11_put4 : ∀ w ∈ v_X11_put4, w ∈ lw_tbl := fun w h => (List.mem_cons.mp h).elim (fun e => by rw [e]; exact lw_tb_in 5 _ (List.mem_of_getElem? (i := 37) (by decide +kernel))) (fun h => (List.mem_append.mp h).elim (mlo_X11_put4 w) (fun h => (List.mem_append.mp h).elim (il_X11 w) (fun h => absurd h List.not_mem_nil)))
set_option maxRecDepth 100000 in
theorem mlo_X11_put8 : ∀ w ∈ o_X11_put8, w ∈ lw_tbl := memp _ [(3, 155), (3, 156)] (by decide +kernel)
theorem mlv_X11_put8 : ∀ w ∈ v_X11_put8, w ∈ lw_tbl := fun w h => (List.mem_cons.mp h).elim (fun e => by rw [e]; exact lw_tb_in 5 _ (List.mem_of_getElem? (i := 37) (by decide +kernel))) (fun h => (List.mem_append.mp h).elim (mlo_X11_put8 w) (fun h => (List.mem_append.mp h).elim (il_X11 w) (fun h => absurd h List.not_mem_nil)))
set_option maxRecDepth 100000 in
theorem mlo_X11_put12 : ∀ w ∈ o_X11_put12, w ∈ lw_tbl := memp _ [(3, 155), (3, 156)] (by decide +kernel)
theorem mlv_X11_put12 : ∀ w ∈ v_X11_put12, w ∈ lw_tbl := fun w h => (List.mem_cons.mp h).elim (fun e => by rw [e]; exact lw_tb_in 5 _ (List.mem_of_getElem? (i := 37) (by decide +kernel))) (fun h => (List.mem_append.mp h).elim (mlo_X11_put12 w) (fun h => (List.mem_append.mp h).elim (il_X11 w) (fun h => absurd h List.not_mem_nil)))
set_option maxRecDepth 100000 in
theorem mlo_X11_put16 : ∀ w ∈ o_X11_put16, w ∈ lw_tbl := memp _ [(3, 155), (3, 156)] (by decide +kernel)
theorem mlv_X11_put16 : ∀ w ∈ v_X11_put16, w ∈ lw_tbl := fun w h => (List.mem_cons.mp h).elim (fun e => by rw [e]; exact lw_tb_in 5 _ (List.mem_of_getElem? (i := 37) (by decide +kernel))) (fun h => (List.mem_append.mp h).elim (mlo_X11_put16 w) (fun h => (List.mem_append.mp h).elim (il_X11 w) (fun h => absurd h List.not_mem_nil)))
set_option maxRecDepth 100000 in
theorem mlo_X11_feed : ∀ w ∈ o_X11_feed, w ∈ lw_tbl := memp _ [(3, 156), (5, 34), (5, 36), (0, 3), (1, 1)] (by decide +kernel)
theorem mlv_X11_feed : ∀ w ∈ v_X11_feed, w ∈ lw_tbl := fun w h => (List.mem_cons.mp h).elim (fun e => by rw [e]; exact lw_tb_in 4 _ (List.mem_of_getElem? (i := 201) (by decide +kernel))) (fun h => (List.mem_append.mp h).elim (mlo_X11_feed w) (fun h => (List.mem_append.mp h).elim (il_X11 w) (fun h => (List.mem_append.mp h).elim (mlv_X11_put0 w) (fun h => (List.mem_append.mp h).elim (mlv_X11_put4 w) (fun h => (List.mem_append.mp h).elim (mlv_X11_put8 w) (fun h => (List.mem_append.mp h).elim (mlv_X11_put12 w) (fun h => (List.mem_append.mp h).elim (mlv_X11_put16 w) (fun h => absurd h List.not_mem_nil))))))))
set_option maxRecDepth 100000 in
theorem mlo_X0_clear : ∀ w ∈ o_X0_clear, w ∈ lw_tbl := memp _ [(1, 62), (1, 71), (1, 76), (1, 81), (1, 84), (1, 167)] (by decide +kernel)
theorem mlv_X0_clear : ∀ w ∈ v_X0_clear, w ∈ lw_tbl := fun w h => (List.mem_cons.mp h).elim (fun e => by rw [e]; exact lw_tb_in 3 _ (List.mem_of_getElem? (i := 222) (by decide +kernel))) (fun h => (List.mem_append.mp h).elim (mlo_X0_clear w) (fun h => (List.mem_append.mp h).elim (il_X0 w) (fun h => absurd h List.not_mem_nil)))
set_option maxRecDepth 100000 in
theorem mlo_X7_begin : ∀ w ∈ o_X7_begin, w ∈ lw_tbl := memp _ [(2, 109), (2, 110), (2, 116), (2, 111), (2, 112), (2, 115), (2, 117), (2, 118), (2, 123), (2, 107), (3, 219), (3, 220), (3, 221), (1, 2), (2, 124), (2, 125)] (by decide +kernel)
theorem mlv_X7_begin : ∀ w ∈ v_X7_begin, w ∈ lw_tbl := fun w h => (List.mem_cons.mp h).elim (fun e => by rw [e]; exact lw_tb_in 3 _ (List.mem_of_getElem? (i := 218) (by decide +kernel))) (fun h => (List.mem_append.mp h).elim (mlo_X7_begin w) (fun h => (List.mem_append.mp h).elim (il_X7 w) (fun h => (List.mem_append.mp h).elim (mlv_X0_clear w) (fun h => absurd h List.not_mem_nil))))
set_option maxRecDepth 100000 in
theorem mlo_X7_skipBlanks : ∀ w ∈ o_X7_skipBlanks, w ∈ lw_tbl := memp _ [(2, 111), (2, 110)] (by decide +kernel)
theorem mlv_X7_skipBlanks : ∀ w ∈ v_X7_skipBlanks, w ∈ lw_tbl := fun w h => (List.mem_cons.mp h).elim (fun e => by rw [e]; exact lw_tb_in 3 _ (List.mem_of_getElem? (i := 230) (by decide +kernel))) (fun h => (List.mem_append.mp h).elim (mlo_X7_skipBlanks w) (fun h => (List.mem_append.mp h).elim (il_X7 w) (fun h => absurd h List.not_mem_nil)))
set_option maxRecDepth 100000 in
theorem mlo_X7_scan : ∀ w ∈ o_X7_scan, w ∈ lw_tbl := memp _ [(2, 112), (3, 227), (3, 229), (0, 2), (1, 5), (2, 111), (2, 113), (2, 110)] (by decide +kernel)
theorem mlv_X7_scan : ∀ w ∈ v_X7_scan, w ∈ lw_tbl := fun w h => (List.mem_cons.mp h).elim (fun e => by rw [e]; exact lw_tb_in 3 _ (List.mem_of_getElem? (i := 226) (by decide +kernel))) (fun h => (List.mem_append.mp h).elim (mlo_X7_scan w) (fun h => (List.mem_append.mp h).elim (il_X7 w) (fun h => (List.mem_append.mp h).elim (mlv_X7_skipBlanks w) (fun h => absurd h List.not_mem_nil))))
set_option maxRecDepth 100000 in
theorem mlo_X7_readAll : ∀ w ∈ o_X7_readAll, w ∈ lw_tbl := memp _ [(3, 215), (3, 217), (0, 0), (1, 5), (3, 223), (3, 225), (0, 1), (2, 112), (2, 115), (2, 118), (2, 107)] (by decide +kernel)
theorem mlv_X7_readAll : ∀ w ∈ v_X7_readAll, w ∈ lw_tbl := fun w h => (List.mem_cons.mp h).elim (fun e => by rw [e]; exact lw_tb_in 3 _ (List.mem_of_getElem? (i := 214) (by decide +kernel))) (fun h => (List.mem_append.mp h).elim (mlo_X7_readAll w) (fun h => (List.mem_append.mp h).elim (mlv_X7_begin w) (fun h => (List.mem_append.mp h).elim (mlv_X7_scan w) (fun h => (List.mem_append.mp h).elim (il_X7 w) (fun h => absurd h List.not_mem_nil)))))
set_option maxRecDepth 100000 in
theorem mlo_X11_text : ∀ w ∈ o_X11_text, w ∈ lw_tbl := memp _ [(3, 164), (3, 155), (3, 156), (3, 158), (3, 211), (3, 212), (3, 213), (1, 5), (3, 157), (3, 161), (3, 163)] (by decide +kernel)
theorem mlv_X11_text : ∀ w ∈ v_X11_text, w ∈ lw_tbl := fun w h => (List.mem_cons.mp h).elim (fun e => by rw [e]; exact lw_tb_in 3 _ (List.mem_of_getElem? (i := 210) (by decide +kernel))) (fun h => (List.mem_append.mp h).elim (mlo_X11_text w) (fun h => (List.mem_append.mp h).elim (il_X11 w) (fun h => (List.mem_append.mp h).elim (mlv_X7_readAll w) (fun h => absurd h List.not_mem_nil))))
set_option maxRecDepth 100000 in
theorem mlo_X5_takeInput : ∀ w ∈ o_X5_takeInput, w ∈ lw_tbl := memp _ [(3, 91)] (by decide +kernel)
theorem mlv_X5_takeInput : ∀ w ∈ v_X5_takeInput, w ∈ lw_tbl := fun w h => (List.mem_cons.mp h).elim (fun e => by rw [e]; exact lw_tb_in 4 _ (List.mem_of_getElem? (i := 193) (by decide +kernel))) (fun h => (List.mem_append.mp h).elim (mlo_X5_takeInput w) (fun h => (List.mem_append.mp h).elim (il_X5 w) (fun h => absurd h List.not_mem_nil)))
set_option maxRecDepth 100000 in
theorem mlo_X11_input : ∀ w ∈ o_X11_input, w ∈ lw_tbl := memp _ [(3, 170), (3, 155), (3, 156), (4, 190), (4, 191), (4, 192), (1, 11), (3, 92)] (by decide +kernel)
theorem mlv_X11_input : ∀ w ∈ v_X11_input, w ∈ lw_tbl := fun w h => (List.mem_cons.mp h).elim (fun e => by rw [e]; exact lw_tb_in 4 _ (List.mem_of_getElem? (i := 189) (by decide +kernel))) (fun h => (List.mem_append.mp h).elim (mlo_X11_input w) (fun h => (List.mem_append.mp h).elim (il_X11 w) (fun h => (List.mem_append.mp h).elim (mlv_X5_takeInput w) (fun h => (List.mem_append.mp h).elim (il_X5 w) (fun h => absurd h List.not_mem_nil)))))
set_option maxRecDepth 100000 in
theorem mlx_0 : ∀ w ∈ ((vx_atS RX11 122 "java/lang/IllegalArgumentException" ["java/lang/RuntimeException", "java/lang/Exception"]).filter goodWord), w ∈ lw_tbl := memp _ [(1, 23), (4, 224), (4, 233), (5, 2), (5, 5), (5, 7), (4, 225), (4, 226), (1, 54), (1, 55), (4, 227), (4, 232), (5, 3), (5, 23), (4, 214), (5, 24), (4, 216), (5, 25), (4, 218), (4, 228), (4, 230), (4, 220), (5, 19), (5, 20), (5, 22), (4, 220), (5, 57), (5, 58), (5, 59), (5, 13), (5, 13), (5, 14), (5, 15), (5, 16), (5, 16), (5, 17), (5, 18), (5, 19), (5, 56), (5, 47), (5, 49), (4, 238), (5, 50), (5, 51), (5, 52), (5, 53), (4, 223), (4, 222), (5, 54)] (by decide +kernel)
set_option maxRecDepth 100000 in
theorem mlo_X11_end : ∀ w ∈ o_X11_end, w ∈ lw_tbl := memp _ [(5, 46), (1, 27), (3, 156)] (by decide +kernel)
theorem mlv_X11_end : ∀ w ∈ v_X11_end, w ∈ lw_tbl := fun w h => (List.mem_cons.mp h).elim (fun e => by rw [e]; exact lw_tb_in 5 _ (List.mem_of_getElem? (i := 45) (by decide +kernel))) (fun h => (List.mem_append.mp h).elim (mlo_X11_end w) (fun h => (List.mem_append.mp h).elim (mlx_0 w) (fun h => (List.mem_append.mp h).elim (il_X11 w) (fun h => absurd h List.not_mem_nil))))
set_option maxRecDepth 100000 in
theorem mlx_1 : ∀ w ∈ ((vx_atS RX11 138 "java/lang/IllegalStateException" ["java/lang/RuntimeException", "java/lang/Exception"]).filter goodWord), w ∈ lw_tbl := memp _ [(1, 23), (4, 224), (4, 233), (5, 2), (5, 5), (5, 7), (4, 225), (4, 226), (1, 54), (1, 55), (4, 227), (4, 232), (5, 3), (5, 23), (4, 214), (5, 24), (4, 216), (5, 25), (4, 218), (4, 228), (4, 230), (4, 220), (5, 19), (5, 20), (5, 22), (4, 220), (5, 82), (5, 83), (5, 84), (5, 13), (5, 13), (5, 14), (5, 15), (5, 16), (5, 16), (5, 17), (5, 18), (5, 19), (5, 81), (5, 72), (5, 74), (4, 239), (5, 75), (5, 76), (5, 77), (5, 78), (4, 223), (4, 222), (5, 79)] (by decide +kernel)
set_option maxRecDepth 100000 in
theorem mlo_X11_ssa : ∀ w ∈ o_X11_ssa, w ∈ lw_tbl := memp _ [(3, 157), (5, 71), (1, 41)] (by decide +kernel)
theorem mlv_X11_ssa : ∀ w ∈ v_X11_ssa, w ∈ lw_tbl := fun w h => (List.mem_cons.mp h).elim (fun e => by rw [e]; exact lw_tb_in 5 _ (List.mem_of_getElem? (i := 70) (by decide +kernel))) (fun h => (List.mem_append.mp h).elim (mlo_X11_ssa w) (fun h => (List.mem_append.mp h).elim (il_X11 w) (fun h => (List.mem_append.mp h).elim (mlx_1 w) (fun h => absurd h List.not_mem_nil))))
set_option maxRecDepth 100000 in
theorem mlo_X11_pass : ∀ w ∈ o_X11_pass, w ∈ lw_tbl := memp _ [(5, 46), (1, 27), (3, 157), (5, 71), (1, 41)] (by decide +kernel)
theorem mlv_X11_pass : ∀ w ∈ v_X11_pass, w ∈ lw_tbl := fun w h => (List.mem_cons.mp h).elim (fun e => by rw [e]; exact lw_tb_in 6 _ (List.mem_of_getElem? (i := 107) (by decide +kernel))) (fun h => (List.mem_append.mp h).elim (mlo_X11_pass w) (fun h => (List.mem_append.mp h).elim (mlx_0 w) (fun h => (List.mem_append.mp h).elim (il_X11 w) (fun h => (List.mem_append.mp h).elim (mlx_1 w) (fun h => absurd h List.not_mem_nil)))))
set_option maxRecDepth 100000 in
theorem mlo_X11_plain : ∀ w ∈ o_X11_plain, w ∈ lw_tbl := memp _ [(3, 157), (5, 71), (1, 41)] (by decide +kernel)
theorem mlv_X11_plain : ∀ w ∈ v_X11_plain, w ∈ lw_tbl := fun w h => (List.mem_cons.mp h).elim (fun e => by rw [e]; exact lw_tb_in 7 _ (List.mem_of_getElem? (i := 128) (by decide +kernel))) (fun h => (List.mem_append.mp h).elim (mlo_X11_plain w) (fun h => (List.mem_append.mp h).elim (il_X11 w) (fun h => (List.mem_append.mp h).elim (mlx_1 w) (fun h => absurd h List.not_mem_nil))))
set_option maxRecDepth 100000 in
theorem mlo_X11_run : ∀ w ∈ o_X11_run, w ∈ lw_tbl := memp _ [(5, 46), (1, 27), (7, 190), (3, 157), (5, 71), (1, 41)] (by decide +kernel)
theorem mlv_X11_run : ∀ w ∈ v_X11_run, w ∈ lw_tbl := fun w h => (List.mem_cons.mp h).elim (fun e => by rw [e]; exact lw_tb_in 7 _ (List.mem_of_getElem? (i := 189) (by decide +kernel))) (fun h => (List.mem_append.mp h).elim (mlo_X11_run w) (fun h => (List.mem_append.mp h).elim (mlx_0 w) (fun h => (List.mem_append.mp h).elim (il_X11 w) (fun h => (List.mem_append.mp h).elim (mlx_1 w) (fun h => absurd h List.not_mem_nil)))))
set_option maxRecDepth 100000 in
theorem mlo_X11_list : ∀ w ∈ o_X11_list, w ∈ lw_tbl := memp _ [(3, 157), (5, 71), (1, 41)] (by decide +kernel)
theorem mlv_X11_list : ∀ w ∈ v_X11_list, w ∈ lw_tbl := fun w h => (List.mem_cons.mp h).elim (fun e => by rw [e]; exact lw_tb_in 8 _ (List.mem_of_getElem? (i := 85) (by decide +kernel))) (fun h => (List.mem_append.mp h).elim (mlo_X11_list w) (fun h => (List.mem_append.mp h).elim (il_X11 w) (fun h => (List.mem_append.mp h).elim (mlx_1 w) (fun h => absurd h List.not_mem_nil))))
set_option maxRecDepth 100000 in
theorem mlx_2 : ∀ w ∈ ((vy_atX RX11 256 "java/util/NoSuchElementException" 13 prog_50_method_4_code "java/lang/RuntimeException" ["java/lang/Exception"]).filter goodWord), w ∈ lw_tbl := memp _ [(1, 23), (4, 224), (4, 233), (5, 2), (5, 5), (5, 7), (4, 225), (4, 226), (1, 54), (1, 55), (4, 227), (4, 232), (5, 3), (5, 23), (4, 214), (5, 24), (4, 216), (5, 25), (4, 218), (4, 228), (4, 230), (4, 220), (5, 19), (5, 20), (5, 22), (4, 220), (8, 63), (8, 64), (8, 65), (5, 13), (5, 13), (5, 14), (5, 15), (5, 16), (5, 16), (5, 17), (5, 18), (5, 19), (8, 62), (8, 53), (8, 55), (5, 1), (8, 56), (8, 57), (8, 58), (8, 59), (4, 223), (4, 222), (8, 60)] (by decide +kernel)
set_option maxRecDepth 100000 in
theorem mlo_X11_block : ∀ w ∈ o_X11_block, w ∈ lw_tbl := memp _ [(5, 46), (1, 27), (3, 157), (8, 52), (1, 45)] (by decide +kernel)
theorem mlv_X11_block : ∀ w ∈ v_X11_block, w ∈ lw_tbl := fun w h => (List.mem_cons.mp h).elim (fun e => by rw [e]; exact lw_tb_in 8 _ (List.mem_of_getElem? (i := 50) (by decide +kernel))) (fun h => (List.mem_append.mp h).elim (mlo_X11_block w) (fun h => (List.mem_append.mp h).elim (mlx_0 w) (fun h => (List.mem_append.mp h).elim (il_X11 w) (fun h => (List.mem_append.mp h).elim (mlx_2 w) (fun h => absurd h List.not_mem_nil)))))
set_option maxRecDepth 100000 in
theorem mlo_X11_told : ∀ w ∈ o_X11_told, w ∈ lw_tbl := memp _ [(3, 170), (3, 94), (3, 96), (3, 98), (3, 100), (3, 102), (5, 46), (1, 27)] (by decide +kernel)
theorem mlv_X11_told : ∀ w ∈ v_X11_told, w ∈ lw_tbl := fun w h => (List.mem_cons.mp h).elim (fun e => by rw [e]; exact lw_tb_in 8 _ (List.mem_of_getElem? (i := 1) (by decide +kernel))) (fun h => (List.mem_append.mp h).elim (mlo_X11_told w) (fun h => (List.mem_append.mp h).elim (il_X11 w) (fun h => (List.mem_append.mp h).elim (il_X5 w) (fun h => (List.mem_append.mp h).elim (mlx_0 w) (fun h => absurd h List.not_mem_nil)))))
set_option maxRecDepth 100000 in
theorem mlx_3 : ∀ w ∈ ((vx_atS RX11 111 "java/lang/IndexOutOfBoundsException" ["java/lang/RuntimeException", "java/lang/Exception"]).filter goodWord), w ∈ lw_tbl := memp _ [(1, 23), (4, 224), (4, 233), (5, 2), (5, 5), (5, 7), (4, 225), (4, 226), (1, 54), (1, 55), (4, 227), (4, 232), (5, 3), (5, 23), (4, 214), (5, 24), (4, 216), (5, 25), (4, 218), (4, 228), (4, 230), (4, 220), (5, 19), (5, 20), (5, 22), (4, 220), (5, 10), (5, 11), (5, 12), (5, 13), (5, 13), (5, 14), (5, 15), (5, 16), (5, 16), (5, 17), (5, 18), (5, 19), (5, 9), (4, 203), (4, 211), (4, 212), (4, 213), (4, 215), (4, 217), (4, 219), (4, 223), (4, 222), (4, 221)] (by decide +kernel)
set_option maxRecDepth 100000 in
theorem mlo_X11_shown : ∀ w ∈ o_X11_shown, w ∈ lw_tbl := memp _ [(4, 202), (1, 26), (3, 170), (3, 96)] (by decide +kernel)
theorem mlv_X11_shown : ∀ w ∈ v_X11_shown, w ∈ lw_tbl := fun w h => (List.mem_cons.mp h).elim (fun e => by rw [e]; exact lw_tb_in 8 _ (List.mem_of_getElem? (i := 9) (by decide +kernel))) (fun h => (List.mem_append.mp h).elim (mlo_X11_shown w) (fun h => (List.mem_append.mp h).elim (mlx_3 w) (fun h => (List.mem_append.mp h).elim (il_X11 w) (fun h => (List.mem_append.mp h).elim (il_X5 w) (fun h => absurd h List.not_mem_nil)))))
set_option maxRecDepth 100000 in
theorem mlo_X11_count : ∀ w ∈ o_X11_count, w ∈ lw_tbl := memp _ [(5, 46), (1, 27), (3, 157), (3, 164), (2, 108), (3, 171), (3, 139), (3, 156)] (by decide +kernel)
theorem mlv_X11_count : ∀ w ∈ v_X11_count, w ∈ lw_tbl := fun w h => (List.mem_cons.mp h).elim (fun e => by rw [e]; exact lw_tb_in 8 _ (List.mem_of_getElem? (i := 17) (by decide +kernel))) (fun h => (List.mem_append.mp h).elim (mlo_X11_count w) (fun h => (List.mem_append.mp h).elim (mlx_0 w) (fun h => (List.mem_append.mp h).elim (il_X11 w) (fun h => (List.mem_append.mp h).elim (il_X7 w) (fun h => (List.mem_append.mp h).elim (il_X6 w) (fun h => absurd h List.not_mem_nil))))))
set_option maxRecDepth 100000 in
theorem mlo_X11_word : ∀ w ∈ o_X11_word, w ∈ lw_tbl := memp _ [(4, 202), (1, 26), (3, 171), (3, 139)] (by decide +kernel)
theorem mlv_X11_word : ∀ w ∈ v_X11_word, w ∈ lw_tbl := fun w h => (List.mem_cons.mp h).elim (fun e => by rw [e]; exact lw_tb_in 8 _ (List.mem_of_getElem? (i := 174) (by decide +kernel))) (fun h => (List.mem_append.mp h).elim (mlo_X11_word w) (fun h => (List.mem_append.mp h).elim (mlx_3 w) (fun h => (List.mem_append.mp h).elim (il_X11 w) (fun h => (List.mem_append.mp h).elim (il_X6 w) (fun h => absurd h List.not_mem_nil)))))
set_option maxRecDepth 100000 in
theorem mlo_L_feed : ∀ w ∈ o_L_feed, w ∈ lw_tbl := memp _ [(4, 198), (4, 199), (4, 200), (1, 1)] (by decide +kernel)
theorem mlv_L_feed : ∀ w ∈ v_L_feed, w ∈ lw_tbl := fun w h => (List.mem_cons.mp h).elim (fun e => by rw [e]; exact lw_tb_in 4 _ (List.mem_of_getElem? (i := 196) (by decide +kernel))) (fun h => (List.mem_append.mp h).elim (mlo_L_feed w) (fun h => (List.mem_append.mp h).elim (mlv_X11_feed w) (fun h => absurd h List.not_mem_nil)))
set_option maxRecDepth 100000 in
theorem mlo_L_end : ∀ w ∈ o_L_end, w ∈ lw_tbl := memp _ [(5, 42), (5, 43), (5, 44), (1, 1), (5, 41)] (by decide +kernel)
theorem mlv_L_end : ∀ w ∈ v_L_end, w ∈ lw_tbl := fun w h => (List.mem_cons.mp h).elim (fun e => by rw [e]; exact lw_tb_in 5 _ (List.mem_of_getElem? (i := 40) (by decide +kernel))) (fun h => (List.mem_append.mp h).elim (mlo_L_end w) (fun h => (List.mem_append.mp h).elim (mlv_X11_end w) (fun h => absurd h List.not_mem_nil)))
set_option maxRecDepth 100000 in
theorem mlo_L_ssa : ∀ w ∈ o_L_ssa, w ∈ lw_tbl := memp _ [(5, 67), (5, 68), (5, 69), (1, 1), (5, 65)] (by decide +kernel)
theorem mlv_L_ssa : ∀ w ∈ v_L_ssa, w ∈ lw_tbl := fun w h => (List.mem_cons.mp h).elim (fun e => by rw [e]; exact lw_tb_in 5 _ (List.mem_of_getElem? (i := 64) (by decide +kernel))) (fun h => (List.mem_append.mp h).elim (mlo_L_ssa w) (fun h => (List.mem_append.mp h).elim (mlv_X11_ssa w) (fun h => absurd h List.not_mem_nil)))
set_option maxRecDepth 100000 in
theorem mlo_L_pass : ∀ w ∈ o_L_pass, w ∈ lw_tbl := memp _ [(6, 104), (6, 105), (6, 106), (1, 1), (5, 41), (5, 65)] (by decide +kernel)
theorem mlv_L_pass : ∀ w ∈ v_L_pass, w ∈ lw_tbl := fun w h => (List.mem_cons.mp h).elim (fun e => by rw [e]; exact lw_tb_in 6 _ (List.mem_of_getElem? (i := 103) (by decide +kernel))) (fun h => (List.mem_append.mp h).elim (mlo_L_pass w) (fun h => (List.mem_append.mp h).elim (mlv_X11_pass w) (fun h => absurd h List.not_mem_nil)))
set_option maxRecDepth 100000 in
theorem mlo_L_plain : ∀ w ∈ o_L_plain, w ∈ lw_tbl := memp _ [(7, 125), (7, 126), (7, 127), (1, 1), (5, 65)] (by decide +kernel)
theorem mlv_L_plain : ∀ w ∈ v_L_plain, w ∈ lw_tbl := fun w h => (List.mem_cons.mp h).elim (fun e => by rw [e]; exact lw_tb_in 7 _ (List.mem_of_getElem? (i := 124) (by decide +kernel))) (fun h => (List.mem_append.mp h).elim (mlo_L_plain w) (fun h => (List.mem_append.mp h).elim (mlv_X11_plain w) (fun h => absurd h List.not_mem_nil)))
set_option maxRecDepth 100000 in
theorem mlo_L_run : ∀ w ∈ o_L_run, w ∈ lw_tbl := memp _ [(7, 186), (7, 187), (7, 188), (1, 1), (5, 41), (5, 65)] (by decide +kernel)
theorem mlv_L_run : ∀ w ∈ v_L_run, w ∈ lw_tbl := fun w h => (List.mem_cons.mp h).elim (fun e => by rw [e]; exact lw_tb_in 7 _ (List.mem_of_getElem? (i := 185) (by decide +kernel))) (fun h => (List.mem_append.mp h).elim (mlo_L_run w) (fun h => (List.mem_append.mp h).elim (mlv_X11_run w) (fun h => absurd h List.not_mem_nil)))
set_option maxRecDepth 100000 in
theorem mlo_L_told : ∀ w ∈ o_L_told, w ∈ lw_tbl := memp _ [(7, 238), (7, 239), (8, 0), (1, 1), (5, 41)] (by decide +kernel)
theorem mlv_L_told : ∀ w ∈ v_L_told, w ∈ lw_tbl := fun w h => (List.mem_cons.mp h).elim (fun e => by rw [e]; exact lw_tb_in 7 _ (List.mem_of_getElem? (i := 237) (by decide +kernel))) (fun h => (List.mem_append.mp h).elim (mlo_L_told w) (fun h => (List.mem_append.mp h).elim (mlv_X11_told w) (fun h => absurd h List.not_mem_nil)))
set_option maxRecDepth 100000 in
theorem mlo_L_shown : ∀ w ∈ o_L_shown, w ∈ lw_tbl := memp _ [(8, 6), (8, 7), (8, 8), (1, 1), (4, 197)] (by decide +kernel)
theorem mlv_L_shown : ∀ w ∈ v_L_shown, w ∈ lw_tbl := fun w h => (List.mem_cons.mp h).elim (fun e => by rw [e]; exact lw_tb_in 8 _ (List.mem_of_getElem? (i := 5) (by decide +kernel))) (fun h => (List.mem_append.mp h).elim (mlo_L_shown w) (fun h => (List.mem_append.mp h).elim (mlv_X11_shown w) (fun h => absurd h List.not_mem_nil)))
set_option maxRecDepth 100000 in
theorem mlo_L_count : ∀ w ∈ o_L_count, w ∈ lw_tbl := memp _ [(8, 14), (8, 15), (8, 16), (1, 1), (5, 41)] (by decide +kernel)
theorem mlv_L_count : ∀ w ∈ v_L_count, w ∈ lw_tbl := fun w h => (List.mem_cons.mp h).elim (fun e => by rw [e]; exact lw_tb_in 8 _ (List.mem_of_getElem? (i := 13) (by decide +kernel))) (fun h => (List.mem_append.mp h).elim (mlo_L_count w) (fun h => (List.mem_append.mp h).elim (mlv_X11_count w) (fun h => absurd h List.not_mem_nil)))
set_option maxRecDepth 100000 in
theorem mlo_L_block : ∀ w ∈ o_L_block, w ∈ lw_tbl := memp _ [(8, 47), (8, 48), (8, 49), (1, 1), (5, 41), (8, 46)] (by decide +kernel)
theorem mlv_L_block : ∀ w ∈ v_L_block, w ∈ lw_tbl := fun w h => (List.mem_cons.mp h).elim (fun e => by rw [e]; exact lw_tb_in 8 _ (List.mem_of_getElem? (i := 45) (by decide +kernel))) (fun h => (List.mem_append.mp h).elim (mlo_L_block w) (fun h => (List.mem_append.mp h).elim (mlv_X11_block w) (fun h => absurd h List.not_mem_nil)))
set_option maxRecDepth 100000 in
theorem mlo_L_list : ∀ w ∈ o_L_list, w ∈ lw_tbl := memp _ [(8, 82), (8, 83), (8, 84), (1, 1), (5, 65)] (by decide +kernel)
theorem mlv_L_list : ∀ w ∈ v_L_list, w ∈ lw_tbl := fun w h => (List.mem_cons.mp h).elim (fun e => by rw [e]; exact lw_tb_in 8 _ (List.mem_of_getElem? (i := 81) (by decide +kernel))) (fun h => (List.mem_append.mp h).elim (mlo_L_list w) (fun h => (List.mem_append.mp h).elim (mlv_X11_list w) (fun h => absurd h List.not_mem_nil)))
set_option maxRecDepth 100000 in
theorem mlo_L_word : ∀ w ∈ o_L_word, w ∈ lw_tbl := memp _ [(8, 171), (8, 172), (8, 173), (1, 1), (4, 197)] (by decide +kernel)
theorem mlv_L_word : ∀ w ∈ v_L_word, w ∈ lw_tbl := fun w h => (List.mem_cons.mp h).elim (fun e => by rw [e]; exact lw_tb_in 8 _ (List.mem_of_getElem? (i := 170) (by decide +kernel))) (fun h => (List.mem_append.mp h).elim (mlo_L_word w) (fun h => (List.mem_append.mp h).elim (mlv_X11_word w) (fun h => absurd h List.not_mem_nil)))
set_option maxRecDepth 100000 in
theorem mlo_Jxa1e45_init : ∀ w ∈ o_Jxa1e45_init, w ∈ lw_tbl := memp _ [(9, 18), (1, 54), (1, 55)] (by decide +kernel)
theorem mlv_Jxa1e45_init : ∀ w ∈ v_Jxa1e45_init, w ∈ lw_tbl := fun w h => (List.mem_cons.mp h).elim (fun e => by rw [e]; exact lw_tb_in 9 _ (List.mem_of_getElem? (i := 17) (by decide +kernel))) (fun h => (List.mem_append.mp h).elim (mlo_Jxa1e45_init w) (fun h => absurd h List.not_mem_nil))
set_option maxRecDepth 100000 in
theorem mlo_Jxc12de_init : ∀ w ∈ o_Jxc12de_init, w ∈ lw_tbl := memp _ [(1, 16), (9, 15), (9, 16), (9, 23)] (by decide +kernel)
theorem mlv_Jxc12de_init : ∀ w ∈ v_Jxc12de_init, w ∈ lw_tbl := fun w h => (List.mem_cons.mp h).elim (fun e => by rw [e]; exact lw_tb_in 9 _ (List.mem_of_getElem? (i := 14) (by decide +kernel))) (fun h => (List.mem_append.mp h).elim (mlo_Jxc12de_init w) (fun h => (List.mem_append.mp h).elim (mlv_Jxa1e45_init w) (fun h => (List.mem_append.mp h).elim (il_Jx4a65c w) (fun h => absurd h List.not_mem_nil))))
set_option maxRecDepth 100000 in
theorem mlo_Jx4a65c_init : ∀ w ∈ o_Jx4a65c_init, w ∈ lw_tbl := memp _ [(1, 17), (9, 12), (9, 13), (9, 19), (9, 21)] (by decide +kernel)
theorem mlv_Jx4a65c_init : ∀ w ∈ v_Jx4a65c_init, w ∈ lw_tbl := fun w h => (List.mem_cons.mp h).elim (fun e => by rw [e]; exact lw_tb_in 9 _ (List.mem_of_getElem? (i := 11) (by decide +kernel))) (fun h => (List.mem_append.mp h).elim (mlo_Jx4a65c_init w) (fun h => (List.mem_append.mp h).elim (mlv_Jxc12de_init w) (fun h => (List.mem_append.mp h).elim (il_Jx4a65c w) (fun h => absurd h List.not_mem_nil))))
set_option maxRecDepth 100000 in
theorem mlo_J5_init : ∀ w ∈ o_J5_init, w ∈ lw_tbl := memp _ [(9, 66), (1, 54), (1, 55), (9, 67), (2, 2), (9, 75), (9, 76)] (by decide +kernel)
theorem mlv_J5_init : ∀ w ∈ v_J5_init, w ∈ lw_tbl := fun w h => (List.mem_cons.mp h).elim (fun e => by rw [e]; exact lw_tb_in 9 _ (List.mem_of_getElem? (i := 65) (by decide +kernel))) (fun h => (List.mem_append.mp h).elim (mlo_J5_init w) (fun h => (List.mem_append.mp h).elim (il_J4 w) (fun h => absurd h List.not_mem_nil)))
set_option maxRecDepth 100000 in
theorem mlo_J4_init : ∀ w ∈ o_J4_init, w ∈ lw_tbl := memp _ [(1, 19), (9, 63), (9, 64)] (by decide +kernel)
theorem mlv_J4_init : ∀ w ∈ v_J4_init, w ∈ lw_tbl := fun w h => (List.mem_cons.mp h).elim (fun e => by rw [e]; exact lw_tb_in 9 _ (List.mem_of_getElem? (i := 62) (by decide +kernel))) (fun h => (List.mem_append.mp h).elim (mlo_J4_init w) (fun h => (List.mem_append.mp h).elim (mlv_J5_init w) (fun h => absurd h List.not_mem_nil)))
set_option maxRecDepth 100000 in
theorem mlo_AL_clear : ∀ w ∈ o_AL_clear, w ∈ lw_tbl := memp _ [(9, 24), (9, 25), (9, 21), (9, 22)] (by decide +kernel)
theorem mlv_AL_clear : ∀ w ∈ v_AL_clear, w ∈ lw_tbl := fun w h => (List.mem_cons.mp h).elim (fun e => by rw [e]; exact lw_tb_in 11 _ (List.mem_of_getElem? (i := 122) (by decide +kernel))) (fun h => (List.mem_append.mp h).elim (mlo_AL_clear w) (fun h => (List.mem_append.mp h).elim (il_Jx4a65c w) (fun h => absurd h List.not_mem_nil)))
set_option maxRecDepth 100000 in
theorem mlo_T3_init : ∀ w ∈ o_T3_init, w ∈ lw_tbl := memp _ [(4, 227), (1, 54), (1, 55), (5, 23), (4, 228), (5, 24), (4, 230), (5, 25), (5, 22)] (by decide +kernel)
theorem mlv_T3_init : ∀ w ∈ v_T3_init, w ∈ lw_tbl := fun w h => (List.mem_cons.mp h).elim (fun e => by rw [e]; exact lw_tb_in 11 _ (List.mem_of_getElem? (i := 155) (by decide +kernel))) (fun h => (List.mem_append.mp h).elim (mlo_T3_init w) (fun h => (List.mem_append.mp h).elim (il_X18 w) (fun h => absurd h List.not_mem_nil)))
set_option maxRecDepth 100000 in
theorem mlo_T2_init : ∀ w ∈ o_T2_init, w ∈ lw_tbl := memp _ [(1, 23), (11, 153), (11, 154)] (by decide +kernel)
theorem mlv_T2_init : ∀ w ∈ v_T2_init, w ∈ lw_tbl := fun w h => (List.mem_cons.mp h).elim (fun e => by rw [e]; exact lw_tb_in 11 _ (List.mem_of_getElem? (i := 152) (by decide +kernel))) (fun h => (List.mem_append.mp h).elim (mlo_T2_init w) (fun h => (List.mem_append.mp h).elim (mlv_T3_init w) (fun h => absurd h List.not_mem_nil)))
set_option maxRecDepth 100000 in
theorem mlo_T1_init : ∀ w ∈ o_T1_init, w ∈ lw_tbl := memp _ [(1, 24), (11, 150), (11, 151)] (by decide +kernel)
theorem mlv_T1_init : ∀ w ∈ v_T1_init, w ∈ lw_tbl := fun w h => (List.mem_cons.mp h).elim (fun e => by rw [e]; exact lw_tb_in 11 _ (List.mem_of_getElem? (i := 149) (by decide +kernel))) (fun h => (List.mem_append.mp h).elim (mlo_T1_init w) (fun h => (List.mem_append.mp h).elim (mlv_T2_init w) (fun h => absurd h List.not_mem_nil)))
set_option maxRecDepth 100000 in
theorem mlo_X18_init : ∀ w ∈ o_X18_init, w ∈ lw_tbl := memp _ [(1, 25), (11, 147), (11, 148), (11, 156)] (by decide +kernel)
theorem mlv_X18_init : ∀ w ∈ v_X18_init, w ∈ lw_tbl := fun w h => (List.mem_cons.mp h).elim (fun e => by rw [e]; exact lw_tb_in 11 _ (List.mem_of_getElem? (i := 146) (by decide +kernel))) (fun h => (List.mem_append.mp h).elim (mlo_X18_init w) (fun h => (List.mem_append.mp h).elim (mlv_T1_init w) (fun h => (List.mem_append.mp h).elim (il_X18 w) (fun h => absurd h List.not_mem_nil))))
set_option maxRecDepth 100000 in
theorem mlo_X13_init : ∀ w ∈ o_X13_init, w ∈ lw_tbl := memp _ [(9, 6), (1, 54), (1, 55), (9, 7), (9, 8), (1, 18), (9, 9), (9, 10), (9, 33), (9, 34), (9, 35), (9, 38)] (by decide +kernel)
theorem mlv_X13_init : ∀ w ∈ v_X13_init, w ∈ lw_tbl := fun w h => (List.mem_cons.mp h).elim (fun e => by rw [e]; exact lw_tb_in 9 _ (List.mem_of_getElem? (i := 5) (by decide +kernel))) (fun h => (List.mem_append.mp h).elim (mlo_X13_init w) (fun h => (List.mem_append.mp h).elim (il_Jx4a65c w) (fun h => (List.mem_append.mp h).elim (mlv_Jx4a65c_init w) (fun h => (List.mem_append.mp h).elim (il_X13 w) (fun h => absurd h List.not_mem_nil)))))
set_option maxRecDepth 100000 in
theorem mlo_X14_init : ∀ w ∈ o_X14_init, w ∈ lw_tbl := memp _ [(8, 191), (1, 54), (1, 55), (2, 63), (8, 198), (8, 192), (8, 200), (2, 3), (8, 201), (8, 203), (8, 207), (8, 208), (8, 209), (8, 210), (8, 211), (8, 213)] (by decide +kernel)
theorem mlv_X14_init : ∀ w ∈ v_X14_init, w ∈ lw_tbl := fun w h => (List.mem_cons.mp h).elim (fun e => by rw [e]; exact lw_tb_in 8 _ (List.mem_of_getElem? (i := 190) (by decide +kernel))) (fun h => (List.mem_append.mp h).elim (mlo_X14_init w) (fun h => (List.mem_append.mp h).elim (il_X14 w) (fun h => absurd h List.not_mem_nil)))
set_option maxRecDepth 100000 in
theorem mlo_X19_init : ∀ w ∈ o_X19_init, w ∈ lw_tbl := memp _ [(8, 185), (1, 54), (1, 55), (8, 186), (8, 187), (1, 14), (8, 189), (9, 89), (9, 1), (9, 2), (1, 15), (9, 4), (9, 90), (9, 91), (2, 3), (9, 92), (2, 63), (9, 93), (9, 94), (9, 56), (9, 95), (9, 96), (9, 97), (9, 98), (9, 99), (9, 101), (9, 102), (9, 103), (9, 104), (9, 105), (9, 106), (9, 107), (9, 108), (9, 109), (9, 110), (9, 111), (9, 113), (9, 114), (9, 115), (9, 116), (9, 58), (9, 59), (1, 20), (9, 60), (9, 61), (9, 121), (2, 2), (9, 123), (9, 125), (9, 128), (9, 129)] (by decide +kernel)
theorem mlv_X19_init : ∀ w ∈ v_X19_init, w ∈ lw_tbl := fun w h => (List.mem_cons.mp h).elim (fun e => by rw [e]; exact lw_tb_in 8 _ (List.mem_of_getElem? (i := 184) (by decide +kernel))) (fun h => (List.mem_append.mp h).elim (mlo_X19_init w) (fun h => (List.mem_append.mp h).elim (il_X14 w) (fun h => (List.mem_append.mp h).elim (mlv_X14_init w) (fun h => (List.mem_append.mp h).elim (il_X19 w) (fun h => (List.mem_append.mp h).elim (il_X13 w) (fun h => (List.mem_append.mp h).elim (mlv_X13_init w) (fun h => (List.mem_append.mp h).elim (il_J4 w) (fun h => (List.mem_append.mp h).elim (mlv_J4_init w) (fun h => absurd h List.not_mem_nil)))))))))
set_option maxRecDepth 100000 in
theorem mlo_X19_no : ∀ w ∈ o_X19_no, w ∈ lw_tbl := memp _ [(9, 122)] (by decide +kernel)
theorem mlv_X19_no : ∀ w ∈ v_X19_no, w ∈ lw_tbl := fun w h => (List.mem_cons.mp h).elim (fun e => by rw [e]; exact lw_tb_in 9 _ (List.mem_of_getElem? (i := 224) (by decide +kernel))) (fun h => (List.mem_append.mp h).elim (mlo_X19_no w) (fun h => (List.mem_append.mp h).elim (il_X19 w) (fun h => absurd h List.not_mem_nil)))
set_option maxRecDepth 100000 in
theorem mlo_X19_word0 : ∀ w ∈ o_X19_word0, w ∈ lw_tbl := memp _ [(9, 123)] (by decide +kernel)
theorem mlv_X19_word0 : ∀ w ∈ v_X19_word0, w ∈ lw_tbl := fun w h => (List.mem_cons.mp h).elim (fun e => by rw [e]; exact lw_tb_in 9 _ (List.mem_of_getElem? (i := 228) (by decide +kernel))) (fun h => (List.mem_append.mp h).elim (mlo_X19_word0 w) (fun h => (List.mem_append.mp h).elim (il_X19 w) (fun h => absurd h List.not_mem_nil)))
set_option maxRecDepth 100000 in
theorem mlo_X19_word4 : ∀ w ∈ o_X19_word4, w ∈ lw_tbl := memp _ [(9, 123)] (by decide +kernel)
theorem mlv_X19_word4 : ∀ w ∈ v_X19_word4, w ∈ lw_tbl := fun w h => (List.mem_cons.mp h).elim (fun e => by rw [e]; exact lw_tb_in 9 _ (List.mem_of_getElem? (i := 228) (by decide +kernel))) (fun h => (List.mem_append.mp h).elim (mlo_X19_word4 w) (fun h => (List.mem_append.mp h).elim (il_X19 w) (fun h => absurd h List.not_mem_nil)))
set_option maxRecDepth 100000 in
theorem mlo_X19_word8 : ∀ w ∈ o_X19_word8, w ∈ lw_tbl := memp _ [(9, 123)] (by decide +kernel)
theorem mlv_X19_word8 : ∀ w ∈ v_X19_word8, w ∈ lw_tbl := fun w h => (List.mem_cons.mp h).elim (fun e => by rw [e]; exact lw_tb_in 9 _ (List.mem_of_getElem? (i := 228) (by decide +kernel))) (fun h => (List.mem_append.mp h).elim (mlo_X19_word8 w) (fun h => (List.mem_append.mp h).elim (il_X19 w) (fun h => absurd h List.not_mem_nil)))
set_option maxRecDepth 100000 in
theorem mlo_X19_word12 : ∀ w ∈ o_X19_word12, w ∈ lw_tbl := memp _ [(9, 123)] (by decide +kernel)
theorem mlv_X19_word12 : ∀ w ∈ v_X19_word12, w ∈ lw_tbl := fun w h => (List.mem_cons.mp h).elim (fun e => by rw [e]; exact lw_tb_in 9 _ (List.mem_of_getElem? (i := 228) (by decide +kernel))) (fun h => (List.mem_append.mp h).elim (mlo_X19_word12 w) (fun h => (List.mem_append.mp h).elim (il_X19 w) (fun h => absurd h List.not_mem_nil)))
set_option maxRecDepth 100000 in
theorem mlo_X19_word16 : ∀ w ∈ o_X19_word16, w ∈ lw_tbl := memp _ [(9, 123)] (by decide +kernel)
theorem mlv_X19_word16 : ∀ w ∈ v_X19_word16, w ∈ lw_tbl := fun w h => (List.mem_cons.mp h).elim (fun e => by rw [e]; exact lw_tb_in 9 _ (List.mem_of_getElem? (i := 228) (by decide +kernel))) (fun h => (List.mem_append.mp h).elim (mlo_X19_word16 w) (fun h => (List.mem_append.mp h).elim (il_X19 w) (fun h => absurd h List.not_mem_nil)))
set_option maxRecDepth 100000 in
theorem mlo_X19_feed : ∀ w ∈ o_X19_feed, w ∈ lw_tbl := memp _ [(9, 122), (9, 124), (9, 225), (9, 227), (0, 5), (1, 13)] (by decide +kernel)
theorem mlv_X19_feed : ∀ w ∈ v_X19_feed, w ∈ lw_tbl := fun w h => (List.mem_cons.mp h).elim (fun e => by rw [e]; exact lw_tb_in 9 _ (List.mem_of_getElem? (i := 220) (by decide +kernel))) (fun h => (List.mem_append.mp h).elim (mlo_X19_feed w) (fun h => (List.mem_append.mp h).elim (il_X19 w) (fun h => (List.mem_append.mp h).elim (mlv_X19_word0 w) (fun h => (List.mem_append.mp h).elim (mlv_X19_word4 w) (fun h => (List.mem_append.mp h).elim (mlv_X19_word8 w) (fun h => (List.mem_append.mp h).elim (mlv_X19_word12 w) (fun h => (List.mem_append.mp h).elim (mlv_X19_word16 w) (fun h => absurd h List.not_mem_nil))))))))
set_option maxRecDepth 100000 in
theorem mlo_X19_end : ∀ w ∈ o_X19_end, w ∈ lw_tbl := memp _ [(9, 122), (9, 221), (9, 223), (0, 4), (1, 13), (9, 124)] (by decide +kernel)
theorem mlv_X19_end : ∀ w ∈ v_X19_end, w ∈ lw_tbl := fun w h => (List.mem_cons.mp h).elim (fun e => by rw [e]; exact lw_tb_in 9 _ (List.mem_of_getElem? (i := 232) (by decide +kernel))) (fun h => (List.mem_append.mp h).elim (mlo_X19_end w) (fun h => (List.mem_append.mp h).elim (il_X19 w) (fun h => (List.mem_append.mp h).elim (mlv_X19_no w) (fun h => absurd h List.not_mem_nil))))
set_option maxRecDepth 100000 in
theorem mlo_X19_ssa : ∀ w ∈ o_X19_ssa, w ∈ lw_tbl := memp _ [(9, 122), (9, 125), (9, 221), (9, 223), (0, 4), (1, 13)] (by decide +kernel)
theorem mlv_X19_ssa : ∀ w ∈ v_X19_ssa, w ∈ lw_tbl := fun w h => (List.mem_cons.mp h).elim (fun e => by rw [e]; exact lw_tb_in 12 _ (List.mem_of_getElem? (i := 179) (by decide +kernel))) (fun h => (List.mem_append.mp h).elim (mlo_X19_ssa w) (fun h => (List.mem_append.mp h).elim (il_X19 w) (fun h => (List.mem_append.mp h).elim (mlv_X19_no w) (fun h => absurd h List.not_mem_nil))))
set_option maxRecDepth 100000 in
theorem mlo_X19_pass : ∀ w ∈ o_X19_pass, w ∈ lw_tbl := memp _ [(9, 122), (9, 221), (9, 223), (0, 4), (1, 13), (9, 125)] (by decide +kernel)
theorem mlv_X19_pass : ∀ w ∈ v_X19_pass, w ∈ lw_tbl := fun w h => (List.mem_cons.mp h).elim (fun e => by rw [e]; exact lw_tb_in 13 _ (List.mem_of_getElem? (i := 169) (by decide +kernel))) (fun h => (List.mem_append.mp h).elim (mlo_X19_pass w) (fun h => (List.mem_append.mp h).elim (il_X19 w) (fun h => (List.mem_append.mp h).elim (mlv_X19_no w) (fun h => absurd h List.not_mem_nil))))
set_option maxRecDepth 100000 in
theorem mlo_X19_plain : ∀ w ∈ o_X19_plain, w ∈ lw_tbl := memp _ [(9, 122), (9, 125), (9, 221), (9, 223), (0, 4), (1, 13)] (by decide +kernel)
theorem mlv_X19_plain : ∀ w ∈ v_X19_plain, w ∈ lw_tbl := fun w h => (List.mem_cons.mp h).elim (fun e => by rw [e]; exact lw_tb_in 14 _ (List.mem_of_getElem? (i := 95) (by decide +kernel))) (fun h => (List.mem_append.mp h).elim (mlo_X19_plain w) (fun h => (List.mem_append.mp h).elim (il_X19 w) (fun h => (List.mem_append.mp h).elim (mlv_X19_no w) (fun h => absurd h List.not_mem_nil))))
set_option maxRecDepth 100000 in
theorem mlo_X19_run_ : ∀ w ∈ o_X19_run_, w ∈ lw_tbl := memp _ [(9, 122), (9, 221), (9, 223), (0, 4), (1, 13), (14, 134), (9, 125)] (by decide +kernel)
theorem mlv_X19_run_ : ∀ w ∈ v_X19_run_, w ∈ lw_tbl := fun w h => (List.mem_cons.mp h).elim (fun e => by rw [e]; exact lw_tb_in 14 _ (List.mem_of_getElem? (i := 133) (by decide +kernel))) (fun h => (List.mem_append.mp h).elim (mlo_X19_run_ w) (fun h => (List.mem_append.mp h).elim (il_X19 w) (fun h => (List.mem_append.mp h).elim (mlv_X19_no w) (fun h => absurd h List.not_mem_nil))))
set_option maxRecDepth 100000 in
theorem mlo_X19_told : ∀ w ∈ o_X19_told, w ∈ lw_tbl := memp _ [(9, 122), (9, 116), (9, 118), (9, 119), (9, 120), (9, 221), (9, 223), (0, 4), (1, 13)] (by decide +kernel)
theorem mlv_X19_told : ∀ w ∈ v_X19_told, w ∈ lw_tbl := fun w h => (List.mem_cons.mp h).elim (fun e => by rw [e]; exact lw_tb_in 14 _ (List.mem_of_getElem? (i := 154) (by decide +kernel))) (fun h => (List.mem_append.mp h).elim (mlo_X19_told w) (fun h => (List.mem_append.mp h).elim (il_X19 w) (fun h => (List.mem_append.mp h).elim (mlv_X19_no w) (fun h => absurd h List.not_mem_nil))))
set_option maxRecDepth 100000 in
theorem mlo_X19_shown : ∀ w ∈ o_X19_shown, w ∈ lw_tbl := memp _ [(9, 122), (9, 221), (9, 223), (0, 4), (1, 13), (9, 118)] (by decide +kernel)
theorem mlv_X19_shown : ∀ w ∈ v_X19_shown, w ∈ lw_tbl := fun w h => (List.mem_cons.mp h).elim (fun e => by rw [e]; exact lw_tb_in 14 _ (List.mem_of_getElem? (i := 158) (by decide +kernel))) (fun h => (List.mem_append.mp h).elim (mlo_X19_shown w) (fun h => (List.mem_append.mp h).elim (il_X19 w) (fun h => (List.mem_append.mp h).elim (mlv_X19_no w) (fun h => absurd h List.not_mem_nil))))
set_option maxRecDepth 100000 in
theorem mlo_X19_count : ∀ w ∈ o_X19_count, w ∈ lw_tbl := memp _ [(9, 122), (9, 125), (9, 126), (9, 127), (9, 124), (9, 221), (9, 223), (0, 4), (1, 13)] (by decide +kernel)
theorem mlv_X19_count : ∀ w ∈ v_X19_count, w ∈ lw_tbl := fun w h => (List.mem_cons.mp h).elim (fun e => by rw [e]; exact lw_tb_in 14 _ (List.mem_of_getElem? (i := 162) (by decide +kernel))) (fun h => (List.mem_append.mp h).elim (mlo_X19_count w) (fun h => (List.mem_append.mp h).elim (il_X19 w) (fun h => (List.mem_append.mp h).elim (mlv_X19_no w) (fun h => absurd h List.not_mem_nil))))
set_option maxRecDepth 100000 in
theorem mlo_X19_block : ∀ w ∈ o_X19_block, w ∈ lw_tbl := memp _ [(9, 122), (9, 221), (9, 223), (0, 4), (1, 13), (9, 125)] (by decide +kernel)
theorem mlv_X19_block : ∀ w ∈ v_X19_block, w ∈ lw_tbl := fun w h => (List.mem_cons.mp h).elim (fun e => by rw [e]; exact lw_tb_in 14 _ (List.mem_of_getElem? (i := 174) (by decide +kernel))) (fun h => (List.mem_append.mp h).elim (mlo_X19_block w) (fun h => (List.mem_append.mp h).elim (il_X19 w) (fun h => (List.mem_append.mp h).elim (mlv_X19_no w) (fun h => absurd h List.not_mem_nil))))
set_option maxRecDepth 100000 in
theorem mlo_X19_list__ : ∀ w ∈ o_X19_list__, w ∈ lw_tbl := memp _ [(9, 122), (9, 125), (9, 221), (9, 223), (0, 4), (1, 13)] (by decide +kernel)
theorem mlv_X19_list__ : ∀ w ∈ v_X19_list__, w ∈ lw_tbl := fun w h => (List.mem_cons.mp h).elim (fun e => by rw [e]; exact lw_tb_in 14 _ (List.mem_of_getElem? (i := 191) (by decide +kernel))) (fun h => (List.mem_append.mp h).elim (mlo_X19_list__ w) (fun h => (List.mem_append.mp h).elim (il_X19 w) (fun h => (List.mem_append.mp h).elim (mlv_X19_no w) (fun h => absurd h List.not_mem_nil))))
set_option maxRecDepth 100000 in
theorem mlo_X19_word_ : ∀ w ∈ o_X19_word_, w ∈ lw_tbl := memp _ [(9, 122), (9, 221), (9, 223), (0, 4), (1, 13), (9, 127)] (by decide +kernel)
theorem mlv_X19_word_ : ∀ w ∈ v_X19_word_, w ∈ lw_tbl := fun w h => (List.mem_cons.mp h).elim (fun e => by rw [e]; exact lw_tb_in 15 _ (List.mem_of_getElem? (i := 59) (by decide +kernel))) (fun h => (List.mem_append.mp h).elim (mlo_X19_word_ w) (fun h => (List.mem_append.mp h).elim (il_X19 w) (fun h => (List.mem_append.mp h).elim (mlv_X19_no w) (fun h => absurd h List.not_mem_nil))))
set_option maxRecDepth 100000 in
theorem mlo_X19_thrown : ∀ w ∈ o_X19_thrown, w ∈ lw_tbl := memp _ [(9, 122)] (by decide +kernel)
theorem mlv_X19_thrown : ∀ w ∈ v_X19_thrown, w ∈ lw_tbl := fun w h => (List.mem_cons.mp h).elim (fun e => by rw [e]; exact lw_tb_in 9 _ (List.mem_of_getElem? (i := 216) (by decide +kernel))) (fun h => (List.mem_append.mp h).elim (mlo_X19_thrown w) (fun h => (List.mem_append.mp h).elim (il_X19 w) (fun h => absurd h List.not_mem_nil)))
set_option maxRecDepth 100000 in
theorem mlo_X19_input : ∀ w ∈ o_X19_input, w ∈ lw_tbl := memp _ [(9, 122), (9, 124), (2, 3), (9, 129)] (by decide +kernel)
theorem mlv_X19_input : ∀ w ∈ v_X19_input, w ∈ lw_tbl := fun w h => (List.mem_cons.mp h).elim (fun e => by rw [e]; exact lw_tb_in 12 _ (List.mem_of_getElem? (i := 175) (by decide +kernel))) (fun h => (List.mem_append.mp h).elim (mlo_X19_input w) (fun h => (List.mem_append.mp h).elim (il_X19 w) (fun h => absurd h List.not_mem_nil)))
set_option maxRecDepth 100000 in
theorem mlo_X16_next : ∀ w ∈ o_X16_next, w ∈ lw_tbl := memp _ [(11, 69), (11, 72), (11, 68), (11, 67), (11, 70), (11, 73)] (by decide +kernel)
theorem mlv_X16_next : ∀ w ∈ v_X16_next, w ∈ lw_tbl := fun w h => (List.mem_cons.mp h).elim (fun e => by rw [e]; exact lw_tb_in 10 _ (List.mem_of_getElem? (i := 8) (by decide +kernel))) (fun h => (List.mem_append.mp h).elim (mlo_X16_next w) (fun h => (List.mem_append.mp h).elim (il_X16 w) (fun h => absurd h List.not_mem_nil)))
set_option maxRecDepth 100000 in
theorem mlo_X16_init : ∀ w ∈ o_X16_init, w ∈ lw_tbl := memp _ [(10, 3), (1, 54), (1, 55), (11, 73), (11, 74), (2, 3), (11, 79), (11, 80), (11, 66), (11, 67), (10, 5), (10, 7), (0, 6), (1, 31)] (by decide +kernel)
theorem mlv_X16_init : ∀ w ∈ v_X16_init, w ∈ lw_tbl := fun w h => (List.mem_cons.mp h).elim (fun e => by rw [e]; exact lw_tb_in 10 _ (List.mem_of_getElem? (i := 2) (by decide +kernel))) (fun h => (List.mem_append.mp h).elim (mlo_X16_init w) (fun h => (List.mem_append.mp h).elim (il_X16 w) (fun h => (List.mem_append.mp h).elim (mlv_X16_next w) (fun h => absurd h List.not_mem_nil))))
set_option maxRecDepth 100000 in
theorem mlo_X13_begin : ∀ w ∈ o_X13_begin, w ∈ lw_tbl := memp _ [(9, 36), (9, 37), (9, 38), (11, 119), (11, 120), (11, 121), (1, 18), (9, 40)] (by decide +kernel)
theorem mlv_X13_begin : ∀ w ∈ v_X13_begin, w ∈ lw_tbl := fun w h => (List.mem_cons.mp h).elim (fun e => by rw [e]; exact lw_tb_in 11 _ (List.mem_of_getElem? (i := 118) (by decide +kernel))) (fun h => (List.mem_append.mp h).elim (mlo_X13_begin w) (fun h => (List.mem_append.mp h).elim (il_X13 w) (fun h => (List.mem_append.mp h).elim (mlv_AL_clear w) (fun h => absurd h List.not_mem_nil))))
set_option maxRecDepth 100000 in
theorem mlo_X16_no : ∀ w ∈ o_X16_no, w ∈ lw_tbl := memp _ [(11, 135), (11, 136), (1, 37), (11, 70), (11, 144), (11, 145)] (by decide +kernel)
theorem mlv_X16_no : ∀ w ∈ v_X16_no, w ∈ lw_tbl := fun w h => (List.mem_cons.mp h).elim (fun e => by rw [e]; exact lw_tb_in 11 _ (List.mem_of_getElem? (i := 134) (by decide +kernel))) (fun h => (List.mem_append.mp h).elim (mlo_X16_no w) (fun h => (List.mem_append.mp h).elim (il_X18 w) (fun h => (List.mem_append.mp h).elim (il_X16 w) (fun h => (List.mem_append.mp h).elim (mlv_X18_init w) (fun h => absurd h List.not_mem_nil)))))
set_option maxRecDepth 100000 in
theorem mlo_X16_want : ∀ w ∈ o_X16_want, w ∈ lw_tbl := memp _ [(11, 69), (11, 131), (11, 133), (0, 9), (1, 31)] (by decide +kernel)
theorem mlv_X16_want : ∀ w ∈ v_X16_want, w ∈ lw_tbl := fun w h => (List.mem_cons.mp h).elim (fun e => by rw [e]; exact lw_tb_in 11 _ (List.mem_of_getElem? (i := 130) (by decide +kernel))) (fun h => (List.mem_append.mp h).elim (mlo_X16_want w) (fun h => (List.mem_append.mp h).elim (il_X16 w) (fun h => (List.mem_append.mp h).elim (mlv_X16_no w) (fun h => absurd h List.not_mem_nil))))
set_option maxRecDepth 100000 in
theorem mlo_X16_block : ∀ w ∈ o_X16_block, w ∈ lw_tbl := memp _ [(11, 70), (11, 127), (11, 129), (0, 8), (1, 31)] (by decide +kernel)
theorem mlv_X16_block : ∀ w ∈ v_X16_block, w ∈ lw_tbl := fun w h => (List.mem_cons.mp h).elim (fun e => by rw [e]; exact lw_tb_in 11 _ (List.mem_of_getElem? (i := 126) (by decide +kernel))) (fun h => (List.mem_append.mp h).elim (mlo_X16_block w) (fun h => (List.mem_append.mp h).elim (il_X16 w) (fun h => (List.mem_append.mp h).elim (mlv_X16_want w) (fun h => absurd h List.not_mem_nil))))
set_option maxRecDepth 100000 in
theorem mlo_X16_program : ∀ w ∈ o_X16_program, w ∈ lw_tbl := memp _ [(11, 115), (11, 116), (11, 117), (1, 15), (11, 123), (11, 125), (0, 7), (1, 31)] (by decide +kernel)
theorem mlv_X16_program : ∀ w ∈ v_X16_program, w ∈ lw_tbl := fun w h => (List.mem_cons.mp h).elim (fun e => by rw [e]; exact lw_tb_in 11 _ (List.mem_of_getElem? (i := 114) (by decide +kernel))) (fun h => (List.mem_append.mp h).elim (mlo_X16_program w) (fun h => (List.mem_append.mp h).elim (mlv_X13_begin w) (fun h => (List.mem_append.mp h).elim (mlv_X16_block w) (fun h => absurd h List.not_mem_nil))))
set_option maxRecDepth 100000 in
theorem mlo_X19_text : ∀ w ∈ o_X19_text, w ∈ lw_tbl := memp _ [(9, 122), (9, 126), (9, 238), (9, 239), (1, 31), (9, 123), (9, 124), (10, 0), (10, 1), (9, 91), (11, 111), (11, 112), (11, 113), (9, 237), (11, 157), (9, 125)] (by decide +kernel)
theorem mlv_X19_text : ∀ w ∈ v_X19_text, w ∈ lw_tbl := fun w h => (List.mem_cons.mp h).elim (fun e => by rw [e]; exact lw_tb_in 9 _ (List.mem_of_getElem? (i := 236) (by decide +kernel))) (fun h => (List.mem_append.mp h).elim (mlo_X19_text w) (fun h => (List.mem_append.mp h).elim (il_X19 w) (fun h => (List.mem_append.mp h).elim (il_X16 w) (fun h => (List.mem_append.mp h).elim (mlv_X16_init w) (fun h => (List.mem_append.mp h).elim (mlv_X16_program w) (fun h => (List.mem_append.mp h).elim (il_X18 w) (fun h => absurd h List.not_mem_nil)))))))
theorem mem_law_0 : ∀ w ∈ wsX110, w ∈ lw_tbl := il_X11
theorem mem_law_1 : ∀ w ∈ v_X11_init, w ∈ lw_tbl := mlv_X11_init
theorem mem_law_2 : ∀ w ∈ wsX190, w ∈ lw_tbl := il_X19
theorem mem_law_3 : ∀ w ∈ v_X19_init, w ∈ lw_tbl := mlv_X19_init
theorem mem_law_4 : ∀ w ∈ v_L_feed, w ∈ lw_tbl := mlv_L_feed
theorem mem_law_5 : ∀ w ∈ v_X19_feed, w ∈ lw_tbl := mlv_X19_feed
theorem mem_law_6 : ∀ w ∈ v_X19_thrown, w ∈ lw_tbl := mlv_X19_thrown
theorem mem_law_7 : ∀ w ∈ v_L_end, w ∈ lw_tbl := mlv_L_end
theorem mem_law_8 : ∀ w ∈ v_X19_end, w ∈ lw_tbl := mlv_X19_end
theorem mem_law_9 : ∀ w ∈ v_X11_text, w ∈ lw_tbl := mlv_X11_text
theorem mem_law_10 : ∀ w ∈ v_X19_text, w ∈ lw_tbl := mlv_X19_text
theorem mem_law_11 : ∀ w ∈ v_X11_input, w ∈ lw_tbl := mlv_X11_input
theorem mem_law_12 : ∀ w ∈ v_X19_input, w ∈ lw_tbl := mlv_X19_input
theorem mem_law_13 : ∀ w ∈ v_L_ssa, w ∈ lw_tbl := mlv_L_ssa
theorem mem_law_14 : ∀ w ∈ v_X19_ssa, w ∈ lw_tbl := mlv_X19_ssa
theorem mem_law_15 : ∀ w ∈ v_L_pass, w ∈ lw_tbl := mlv_L_pass
theorem mem_law_16 : ∀ w ∈ v_X19_pass, w ∈ lw_tbl := mlv_X19_pass
theorem mem_law_17 : ∀ w ∈ v_L_plain, w ∈ lw_tbl := mlv_L_plain
theorem mem_law_18 : ∀ w ∈ v_X19_plain, w ∈ lw_tbl := mlv_X19_plain
theorem mem_law_19 : ∀ w ∈ v_L_run, w ∈ lw_tbl := mlv_L_run
theorem mem_law_20 : ∀ w ∈ v_X19_run_, w ∈ lw_tbl := mlv_X19_run_
theorem mem_law_21 : ∀ w ∈ v_L_told, w ∈ lw_tbl := mlv_L_told
theorem mem_law_22 : ∀ w ∈ v_X19_told, w ∈ lw_tbl := mlv_X19_told
theorem mem_law_23 : ∀ w ∈ v_L_shown, w ∈ lw_tbl := mlv_L_shown
theorem mem_law_24 : ∀ w ∈ v_X19_shown, w ∈ lw_tbl := mlv_X19_shown
theorem mem_law_25 : ∀ w ∈ v_L_count, w ∈ lw_tbl := mlv_L_count
theorem mem_law_26 : ∀ w ∈ v_X19_count, w ∈ lw_tbl := mlv_X19_count
theorem mem_law_27 : ∀ w ∈ v_L_block, w ∈ lw_tbl := mlv_L_block
theorem mem_law_28 : ∀ w ∈ v_X19_block, w ∈ lw_tbl := mlv_X19_block
theorem mem_law_29 : ∀ w ∈ v_L_list, w ∈ lw_tbl := mlv_L_list
theorem mem_law_30 : ∀ w ∈ v_X19_list__, w ∈ lw_tbl := mlv_X19_list__
theorem mem_law_31 : ∀ w ∈ v_L_word, w ∈ lw_tbl := mlv_L_word
theorem mem_law_32 : ∀ w ∈ v_X19_word_, w ∈ lw_tbl := mlv_X19_word_
set_option maxRecDepth 20000 in
theorem g_law_L_feed : GoodIn lw_tbl (va_wsS RL 64 yL_feed v_L_feed) := goodIn_app (goodIn_sub (fun w h => mow_law w (by revert w h; decide +kernel)) (by decide +kernel)) (goodIn_sub mem_law_4 gw_L_feed)
set_option maxRecDepth 20000 in
theorem g_law_X19_feed : GoodIn lw_tbl (wsV RL 69 RX19 yX19_feed v_X19_feed) := goodIn_app (goodIn_sub (fun w h => mow_law w (by revert w h; decide +kernel)) (by decide +kernel)) (goodIn_sub mem_law_5 gw_X19_feed)
set_option maxRecDepth 20000 in
theorem g_law_X19_thrown : GoodIn lw_tbl (wsV RL 70 RX19 yX19_thrown v_X19_thrown) := goodIn_app (goodIn_sub (fun w h => mow_law w (by revert w h; decide +kernel)) (by decide +kernel)) (goodIn_sub mem_law_6 gw_X19_thrown)
set_option maxRecDepth 20000 in
theorem g_law_L_end : GoodIn lw_tbl (va_wsS RL 73 yL_end v_L_end) := goodIn_app (goodIn_sub (fun w h => mow_law w (by revert w h; decide +kernel)) (by decide +kernel)) (goodIn_sub mem_law_7 gw_L_end)
set_option maxRecDepth 20000 in
theorem g_law_X19_end : GoodIn lw_tbl (wsV RL 76 RX19 yX19_end v_X19_end) := goodIn_app (goodIn_sub (fun w h => mow_law w (by revert w h; decide +kernel)) (by decide +kernel)) (goodIn_sub mem_law_8 gw_X19_end)
set_option maxRecDepth 20000 in
theorem g_law_X11_text : GoodIn lw_tbl (wsV RL 77 RX11 yX11_text v_X11_text) := goodIn_app (goodIn_sub (fun w h => mow_law w (by revert w h; decide +kernel)) (by decide +kernel)) (goodIn_sub mem_law_9 gw_X11_text)
set_option maxRecDepth 20000 in
theorem g_law_X19_text : GoodIn lw_tbl (wsV RL 80 RX19 yX19_text v_X19_text) := goodIn_app (goodIn_sub (fun w h => mow_law w (by revert w h; decide +kernel)) (by decide +kernel)) (goodIn_sub mem_law_10 gw_X19_text)
set_option maxRecDepth 20000 in
theorem g_law_X11_input : GoodIn lw_tbl (wsV RL 81 RX11 yX11_input v_X11_input) := goodIn_app (goodIn_sub (fun w h => mow_law w (by revert w h; decide +kernel)) (by decide +kernel)) (goodIn_sub mem_law_11 gw_X11_input)
set_option maxRecDepth 20000 in
theorem g_law_X19_input : GoodIn lw_tbl (wsV RL 84 RX19 yX19_input v_X19_input) := goodIn_app (goodIn_sub (fun w h => mow_law w (by revert w h; decide +kernel)) (by decide +kernel)) (goodIn_sub mem_law_12 gw_X19_input)
set_option maxRecDepth 20000 in
theorem g_law_L_ssa : GoodIn lw_tbl (va_wsS RL 85 yL_ssa v_L_ssa) := goodIn_app (goodIn_sub (fun w h => mow_law w (by revert w h; decide +kernel)) (by decide +kernel)) (goodIn_sub mem_law_13 gw_L_ssa)
set_option maxRecDepth 20000 in
theorem g_law_X19_ssa : GoodIn lw_tbl (wsV RL 88 RX19 yX19_ssa v_X19_ssa) := goodIn_app (goodIn_sub (fun w h => mow_law w (by revert w h; decide +kernel)) (by decide +kernel)) (goodIn_sub mem_law_14 gw_X19_ssa)
set_option maxRecDepth 20000 in
theorem g_law_L_pass : GoodIn lw_tbl (va_wsS RL 89 yL_pass v_L_pass) := goodIn_app (goodIn_sub (fun w h => mow_law w (by revert w h; decide +kernel)) (by decide +kernel)) (goodIn_sub mem_law_15 gw_L_pass)
set_option maxRecDepth 20000 in
theorem g_law_X19_pass : GoodIn lw_tbl (wsV RL 91 RX19 yX19_pass v_X19_pass) := goodIn_app (goodIn_sub (fun w h => mow_law w (by revert w h; decide +kernel)) (by decide +kernel)) (goodIn_sub mem_law_16 gw_X19_pass)
set_option maxRecDepth 20000 in
theorem g_law_L_plain : GoodIn lw_tbl (va_wsS RL 92 yL_plain v_L_plain) := goodIn_app (goodIn_sub (fun w h => mow_law w (by revert w h; decide +kernel)) (by decide +kernel)) (goodIn_sub mem_law_17 gw_L_plain)
set_option maxRecDepth 20000 in
theorem g_law_X19_plain : GoodIn lw_tbl (wsV RL 94 RX19 yX19_plain v_X19_plain) := goodIn_app (goodIn_sub (fun w h => mow_law w (by revert w h; decide +kernel)) (by decide +kernel)) (goodIn_sub mem_law_18 gw_X19_plain)
set_option maxRecDepth 20000 in
theorem g_law_L_run : GoodIn lw_tbl (va_wsS RL 95 yL_run v_L_run) := goodIn_app (goodIn_sub (fun w h => mow_law w (by revert w h; decide +kernel)) (by decide +kernel)) (goodIn_sub mem_law_19 gw_L_run)
set_option maxRecDepth 20000 in
theorem g_law_X19_run_ : GoodIn lw_tbl (wsV RL 97 RX19 yX19_run_ v_X19_run_) := goodIn_app (goodIn_sub (fun w h => mow_law w (by revert w h; decide +kernel)) (by decide +kernel)) (goodIn_sub mem_law_20 gw_X19_run_)
set_option maxRecDepth 20000 in
theorem g_law_L_told : GoodIn lw_tbl (va_wsS RL 98 yL_told v_L_told) := goodIn_app (goodIn_sub (fun w h => mow_law w (by revert w h; decide +kernel)) (by decide +kernel)) (goodIn_sub mem_law_21 gw_L_told)
set_option maxRecDepth 20000 in
theorem g_law_X19_told : GoodIn lw_tbl (wsV RL 100 RX19 yX19_told v_X19_told) := goodIn_app (goodIn_sub (fun w h => mow_law w (by revert w h; decide +kernel)) (by decide +kernel)) (goodIn_sub mem_law_22 gw_X19_told)
set_option maxRecDepth 20000 in
theorem g_law_L_shown : GoodIn lw_tbl (va_wsS RL 101 yL_shown v_L_shown) := goodIn_app (goodIn_sub (fun w h => mow_law w (by revert w h; decide +kernel)) (by decide +kernel)) (goodIn_sub mem_law_23 gw_L_shown)
set_option maxRecDepth 20000 in
theorem g_law_X19_shown : GoodIn lw_tbl (wsV RL 103 RX19 yX19_shown v_X19_shown) := goodIn_app (goodIn_sub (fun w h => mow_law w (by revert w h; decide +kernel)) (by decide +kernel)) (goodIn_sub mem_law_24 gw_X19_shown)
set_option maxRecDepth 20000 in
theorem g_law_L_count : GoodIn lw_tbl (va_wsS RL 104 yL_count v_L_count) := goodIn_app (goodIn_sub (fun w h => mow_law w (by revert w h; decide +kernel)) (by decide +kernel)) (goodIn_sub mem_law_25 gw_L_count)
set_option maxRecDepth 20000 in
theorem g_law_X19_count : GoodIn lw_tbl (wsV RL 106 RX19 yX19_count v_X19_count) := goodIn_app (goodIn_sub (fun w h => mow_law w (by revert w h; decide +kernel)) (by decide +kernel)) (goodIn_sub mem_law_26 gw_X19_count)
set_option maxRecDepth 20000 in
theorem g_law_L_block : GoodIn lw_tbl (va_wsS RL 107 yL_block v_L_block) := goodIn_app (goodIn_sub (fun w h => mow_law w (by revert w h; decide +kernel)) (by decide +kernel)) (goodIn_sub mem_law_27 gw_L_block)
set_option maxRecDepth 20000 in
theorem g_law_X19_block : GoodIn lw_tbl (wsV RL 110 RX19 yX19_block v_X19_block) := goodIn_app (goodIn_sub (fun w h => mow_law w (by revert w h; decide +kernel)) (by decide +kernel)) (goodIn_sub mem_law_28 gw_X19_block)
set_option maxRecDepth 20000 in
theorem g_law_L_list : GoodIn lw_tbl (va_wsS RL 111 yL_list v_L_list) := goodIn_app (goodIn_sub (fun w h => mow_law w (by revert w h; decide +kernel)) (by decide +kernel)) (goodIn_sub mem_law_29 gw_L_list)
set_option maxRecDepth 20000 in
theorem g_law_X19_list__ : GoodIn lw_tbl (wsV RL 113 RX19 yX19_list__ v_X19_list__) := goodIn_app (goodIn_sub (fun w h => mow_law w (by revert w h; decide +kernel)) (by decide +kernel)) (goodIn_sub mem_law_30 gw_X19_list__)
set_option maxRecDepth 20000 in
theorem g_law_L_word : GoodIn lw_tbl (va_wsS RL 114 yL_word v_L_word) := goodIn_app (goodIn_sub (fun w h => mow_law w (by revert w h; decide +kernel)) (by decide +kernel)) (goodIn_sub mem_law_31 gw_L_word)
set_option maxRecDepth 20000 in
theorem g_law_X19_word_ : GoodIn lw_tbl (wsV RL 116 RX19 yX19_word_ v_X19_word_) := goodIn_app (goodIn_sub (fun w h => mow_law w (by revert w h; decide +kernel)) (by decide +kernel)) (goodIn_sub mem_law_32 gw_X19_word_)
theorem dL_law_0 : decode cL_law 0 = .ok (.new 8, 3) := by decide +kernel
theorem dL_law_3 : decode cL_law 3 = .ok (.dup, 1) := by decide +kernel
theorem dL_law_4 : decode cL_law 4 = .ok (.invokespecial 60, 3) := by decide +kernel
theorem dL_law_7 : decode cL_law 7 = .ok (.astore_n 1, 1) := by decide +kernel
theorem dL_law_8 : decode cL_law 8 = .ok (.new 61, 3) := by decide +kernel
theorem dL_law_11 : decode cL_law 11 = .ok (.dup, 1) := by decide +kernel
theorem dL_law_12 : decode cL_law 12 = .ok (.invokespecial 63, 3) := by decide +kernel
theorem dL_law_15 : decode cL_law 15 = .ok (.astore_n 2, 1) := by decide +kernel
theorem dL_law_16 : decode cL_law 16 = .ok (.iconst 1, 1) := by decide +kernel
theorem dL_law_17 : decode cL_law 17 = .ok (.newarray .long, 2) := by decide +kernel
theorem dL_law_19 : decode cL_law 19 = .ok (.astore_n 3, 1) := by decide +kernel
theorem dL_law_20 : decode cL_law 20 = .ok (.iconst 0, 1) := by decide +kernel
theorem dL_law_21 : decode cL_law 21 = .ok (.istore 4, 2) := by decide +kernel
theorem dL_law_23 : decode cL_law 23 = .ok (.iload 4, 2) := by decide +kernel
theorem dL_law_25 : decode cL_law 25 = .ok (.aload_n 0, 1) := by decide +kernel
theorem dL_law_26 : decode cL_law 26 = .ok (.arraylength, 1) := by decide +kernel
theorem dL_law_27 : decode cL_law 27 = .ok (.bipush 6, 2) := by decide +kernel
theorem dL_law_29 : decode cL_law 29 = .ok (.isub, 1) := by decide +kernel
theorem dL_law_30 : decode cL_law 30 = .ok (.if_icmp .gt 809, 3) := by decide +kernel
theorem dL_law_839 : decode cL_law 839 = .ok (.iconst 1, 1) := by decide +kernel
theorem dL_law_840 : decode cL_law 840 = .ok (.ireturn, 1) := by decide +kernel
theorem dL_law_33 : decode cL_law 33 = .ok (.aload_n 0, 1) := by decide +kernel
theorem dL_law_34 : decode cL_law 34 = .ok (.iload 4, 2) := by decide +kernel
theorem dL_law_36 : decode cL_law 36 = .ok (.iaload, 1) := by decide +kernel
theorem dL_law_37 : decode cL_law 37 = .ok (.bipush 15, 2) := by decide +kernel
theorem dL_law_39 : decode cL_law 39 = .ok (.iand, 1) := by decide +kernel
theorem dL_law_40 : decode cL_law 40 = .ok (.tableswitch 793 0 13 #[72, 176, 232, 245, 258, 302, 358, 402, 458, 514, 570, 626, 694, 738], 72) := by decide +kernel
theorem dL_law_112 : decode cL_law 112 = .ok (.aload_n 1, 1) := by decide +kernel
theorem dL_law_113 : decode cL_law 113 = .ok (.aload_n 0, 1) := by decide +kernel
theorem dL_law_114 : decode cL_law 114 = .ok (.iload 4, 2) := by decide +kernel
theorem dL_law_116 : decode cL_law 116 = .ok (.iconst 1, 1) := by decide +kernel
theorem dL_law_117 : decode cL_law 117 = .ok (.iadd, 1) := by decide +kernel
theorem dL_law_118 : decode cL_law 118 = .ok (.iaload, 1) := by decide +kernel
theorem dL_law_119 : decode cL_law 119 = .ok (.aload_n 0, 1) := by decide +kernel
theorem dL_law_120 : decode cL_law 120 = .ok (.iload 4, 2) := by decide +kernel
theorem dL_law_122 : decode cL_law 122 = .ok (.iconst 2, 1) := by decide +kernel
theorem dL_law_123 : decode cL_law 123 = .ok (.iadd, 1) := by decide +kernel
theorem dL_law_124 : decode cL_law 124 = .ok (.iaload, 1) := by decide +kernel
theorem dL_law_125 : decode cL_law 125 = .ok (.aload_n 0, 1) := by decide +kernel
theorem dL_law_126 : decode cL_law 126 = .ok (.iload 4, 2) := by decide +kernel
theorem dL_law_128 : decode cL_law 128 = .ok (.iconst 3, 1) := by decide +kernel
theorem dL_law_129 : decode cL_law 129 = .ok (.iadd, 1) := by decide +kernel
theorem dL_law_130 : decode cL_law 130 = .ok (.iaload, 1) := by decide +kernel
theorem dL_law_131 : decode cL_law 131 = .ok (.aload_n 0, 1) := by decide +kernel
theorem dL_law_132 : decode cL_law 132 = .ok (.iload 4, 2) := by decide +kernel
theorem dL_law_134 : decode cL_law 134 = .ok (.iconst 4, 1) := by decide +kernel
theorem dL_law_135 : decode cL_law 135 = .ok (.iadd, 1) := by decide +kernel
theorem dL_law_136 : decode cL_law 136 = .ok (.iaload, 1) := by decide +kernel
theorem dL_law_137 : decode cL_law 137 = .ok (.aload_n 0, 1) := by decide +kernel
theorem dL_law_138 : decode cL_law 138 = .ok (.iload 4, 2) := by decide +kernel
theorem dL_law_140 : decode cL_law 140 = .ok (.iconst 5, 1) := by decide +kernel
theorem dL_law_141 : decode cL_law 141 = .ok (.iadd, 1) := by decide +kernel
theorem dL_law_142 : decode cL_law 142 = .ok (.iaload, 1) := by decide +kernel
theorem dL_law_143 : decode cL_law 143 = .ok (.aload_n 3, 1) := by decide +kernel
theorem dL_law_144 : decode cL_law 144 = .ok (.invokestatic 64, 3) := by decide +kernel
theorem dL_law_147 : decode cL_law 147 = .ok (.istore 5, 2) := by decide +kernel
theorem dL_law_149 : decode cL_law 149 = .ok (.aload_n 2, 1) := by decide +kernel
theorem dL_law_150 : decode cL_law 150 = .ok (.aload_n 0, 1) := by decide +kernel
theorem dL_law_151 : decode cL_law 151 = .ok (.iload 4, 2) := by decide +kernel
theorem dL_law_153 : decode cL_law 153 = .ok (.iconst 1, 1) := by decide +kernel
theorem dL_law_154 : decode cL_law 154 = .ok (.iadd, 1) := by decide +kernel
theorem dL_law_155 : decode cL_law 155 = .ok (.iaload, 1) := by decide +kernel
theorem dL_law_156 : decode cL_law 156 = .ok (.aload_n 0, 1) := by decide +kernel
theorem dL_law_157 : decode cL_law 157 = .ok (.iload 4, 2) := by decide +kernel
theorem dL_law_159 : decode cL_law 159 = .ok (.iconst 2, 1) := by decide +kernel
theorem dL_law_160 : decode cL_law 160 = .ok (.iadd, 1) := by decide +kernel
theorem dL_law_161 : decode cL_law 161 = .ok (.iaload, 1) := by decide +kernel
theorem dL_law_162 : decode cL_law 162 = .ok (.aload_n 0, 1) := by decide +kernel
theorem dL_law_163 : decode cL_law 163 = .ok (.iload 4, 2) := by decide +kernel
theorem dL_law_165 : decode cL_law 165 = .ok (.iconst 3, 1) := by decide +kernel
theorem dL_law_166 : decode cL_law 166 = .ok (.iadd, 1) := by decide +kernel
theorem dL_law_167 : decode cL_law 167 = .ok (.iaload, 1) := by decide +kernel
theorem dL_law_168 : decode cL_law 168 = .ok (.aload_n 0, 1) := by decide +kernel
theorem dL_law_169 : decode cL_law 169 = .ok (.iload 4, 2) := by decide +kernel
theorem dL_law_171 : decode cL_law 171 = .ok (.iconst 4, 1) := by decide +kernel
theorem dL_law_172 : decode cL_law 172 = .ok (.iadd, 1) := by decide +kernel
theorem dL_law_173 : decode cL_law 173 = .ok (.iaload, 1) := by decide +kernel
theorem dL_law_174 : decode cL_law 174 = .ok (.aload_n 0, 1) := by decide +kernel
theorem dL_law_175 : decode cL_law 175 = .ok (.iload 4, 2) := by decide +kernel
theorem dL_law_177 : decode cL_law 177 = .ok (.iconst 5, 1) := by decide +kernel
theorem dL_law_178 : decode cL_law 178 = .ok (.iadd, 1) := by decide +kernel
theorem dL_law_179 : decode cL_law 179 = .ok (.iaload, 1) := by decide +kernel
theorem dL_law_180 : decode cL_law 180 = .ok (.invokevirtual 69, 3) := by decide +kernel
theorem dL_law_183 : decode cL_law 183 = .ok (.istore 6, 2) := by decide +kernel
theorem dL_law_185 : decode cL_law 185 = .ok (.aload_n 2, 1) := by decide +kernel
theorem dL_law_186 : decode cL_law 186 = .ok (.invokevirtual 70, 3) := by decide +kernel
theorem dL_law_189 : decode cL_law 189 = .ok (.iload 5, 2) := by decide +kernel
theorem dL_law_191 : decode cL_law 191 = .ok (.if_icmp .eq 5, 3) := by decide +kernel
theorem dL_law_196 : decode cL_law 196 = .ok (.iload 5, 2) := by decide +kernel
theorem dL_law_198 : decode cL_law 198 = .ok (.ifCond .ne 15, 3) := by decide +kernel
theorem dL_law_213 : decode cL_law 213 = .ok (.goto 620, 3) := by decide +kernel
theorem dL_law_833 : decode cL_law 833 = .ok (.iinc 4 6, 3) := by decide +kernel
theorem dL_law_836 : decode cL_law 836 = .ok (.goto (-813), 3) := by decide +kernel
theorem dL_law_201 : decode cL_law 201 = .ok (.aload_n 3, 1) := by decide +kernel
theorem dL_law_202 : decode cL_law 202 = .ok (.iconst 0, 1) := by decide +kernel
theorem dL_law_203 : decode cL_law 203 = .ok (.laload, 1) := by decide +kernel
theorem dL_law_204 : decode cL_law 204 = .ok (.iload 6, 2) := by decide +kernel
theorem dL_law_206 : decode cL_law 206 = .ok (.i2l, 1) := by decide +kernel
theorem dL_law_207 : decode cL_law 207 = .ok (.lcmp, 1) := by decide +kernel
theorem dL_law_208 : decode cL_law 208 = .ok (.ifCond .eq 5, 3) := by decide +kernel
theorem dL_law_216 : decode cL_law 216 = .ok (.aload_n 1, 1) := by decide +kernel
theorem dL_law_217 : decode cL_law 217 = .ok (.aload_n 0, 1) := by decide +kernel
theorem dL_law_218 : decode cL_law 218 = .ok (.iload 4, 2) := by decide +kernel
theorem dL_law_220 : decode cL_law 220 = .ok (.iconst 1, 1) := by decide +kernel
theorem dL_law_221 : decode cL_law 221 = .ok (.iadd, 1) := by decide +kernel
theorem dL_law_222 : decode cL_law 222 = .ok (.iaload, 1) := by decide +kernel
theorem dL_law_223 : decode cL_law 223 = .ok (.aload_n 3, 1) := by decide +kernel
theorem dL_law_224 : decode cL_law 224 = .ok (.invokestatic 73, 3) := by decide +kernel
theorem dL_law_227 : decode cL_law 227 = .ok (.istore 5, 2) := by decide +kernel
theorem dL_law_229 : decode cL_law 229 = .ok (.aload_n 2, 1) := by decide +kernel
theorem dL_law_230 : decode cL_law 230 = .ok (.aload_n 0, 1) := by decide +kernel
theorem dL_law_231 : decode cL_law 231 = .ok (.iload 4, 2) := by decide +kernel
theorem dL_law_233 : decode cL_law 233 = .ok (.iconst 1, 1) := by decide +kernel
theorem dL_law_234 : decode cL_law 234 = .ok (.iadd, 1) := by decide +kernel
theorem dL_law_235 : decode cL_law 235 = .ok (.iaload, 1) := by decide +kernel
theorem dL_law_236 : decode cL_law 236 = .ok (.invokevirtual 76, 3) := by decide +kernel
theorem dL_law_239 : decode cL_law 239 = .ok (.istore 6, 2) := by decide +kernel
theorem dL_law_241 : decode cL_law 241 = .ok (.aload_n 2, 1) := by decide +kernel
theorem dL_law_242 : decode cL_law 242 = .ok (.invokevirtual 70, 3) := by decide +kernel
theorem dL_law_245 : decode cL_law 245 = .ok (.iload 5, 2) := by decide +kernel
theorem dL_law_247 : decode cL_law 247 = .ok (.if_icmp .eq 5, 3) := by decide +kernel
theorem dL_law_252 : decode cL_law 252 = .ok (.iload 5, 2) := by decide +kernel
theorem dL_law_254 : decode cL_law 254 = .ok (.ifCond .ne 15, 3) := by decide +kernel
theorem dL_law_269 : decode cL_law 269 = .ok (.goto 564, 3) := by decide +kernel
theorem dL_law_257 : decode cL_law 257 = .ok (.aload_n 3, 1) := by decide +kernel
theorem dL_law_258 : decode cL_law 258 = .ok (.iconst 0, 1) := by decide +kernel
theorem dL_law_259 : decode cL_law 259 = .ok (.laload, 1) := by decide +kernel
theorem dL_law_260 : decode cL_law 260 = .ok (.iload 6, 2) := by decide +kernel
theorem dL_law_262 : decode cL_law 262 = .ok (.i2l, 1) := by decide +kernel
theorem dL_law_263 : decode cL_law 263 = .ok (.lcmp, 1) := by decide +kernel
theorem dL_law_264 : decode cL_law 264 = .ok (.ifCond .eq 5, 3) := by decide +kernel
theorem dL_law_272 : decode cL_law 272 = .ok (.aload_n 1, 1) := by decide +kernel
theorem dL_law_273 : decode cL_law 273 = .ok (.invokevirtual 77, 3) := by decide +kernel
theorem dL_law_276 : decode cL_law 276 = .ok (.aload_n 2, 1) := by decide +kernel
theorem dL_law_277 : decode cL_law 277 = .ok (.invokevirtual 80, 3) := by decide +kernel
theorem dL_law_280 : decode cL_law 280 = .ok (.if_icmp .eq 553, 3) := by decide +kernel
theorem dL_law_285 : decode cL_law 285 = .ok (.aload_n 1, 1) := by decide +kernel
theorem dL_law_286 : decode cL_law 286 = .ok (.invokevirtual 81, 3) := by decide +kernel
theorem dL_law_289 : decode cL_law 289 = .ok (.aload_n 2, 1) := by decide +kernel
theorem dL_law_290 : decode cL_law 290 = .ok (.invokevirtual 84, 3) := by decide +kernel
theorem dL_law_293 : decode cL_law 293 = .ok (.if_icmp .eq 540, 3) := by decide +kernel
theorem dL_law_298 : decode cL_law 298 = .ok (.aload_n 1, 1) := by decide +kernel
theorem dL_law_299 : decode cL_law 299 = .ok (.aload_n 3, 1) := by decide +kernel
theorem dL_law_300 : decode cL_law 300 = .ok (.invokestatic 85, 3) := by decide +kernel
theorem dL_law_303 : decode cL_law 303 = .ok (.istore 5, 2) := by decide +kernel
theorem dL_law_305 : decode cL_law 305 = .ok (.aload_n 2, 1) := by decide +kernel
theorem dL_law_306 : decode cL_law 306 = .ok (.invokevirtual 88, 3) := by decide +kernel
theorem dL_law_309 : decode cL_law 309 = .ok (.istore 6, 2) := by decide +kernel
theorem dL_law_311 : decode cL_law 311 = .ok (.aload_n 2, 1) := by decide +kernel
theorem dL_law_312 : decode cL_law 312 = .ok (.invokevirtual 70, 3) := by decide +kernel
theorem dL_law_315 : decode cL_law 315 = .ok (.iload 5, 2) := by decide +kernel
theorem dL_law_317 : decode cL_law 317 = .ok (.if_icmp .eq 5, 3) := by decide +kernel
theorem dL_law_322 : decode cL_law 322 = .ok (.iload 5, 2) := by decide +kernel
theorem dL_law_324 : decode cL_law 324 = .ok (.ifCond .ne 15, 3) := by decide +kernel
theorem dL_law_339 : decode cL_law 339 = .ok (.goto 494, 3) := by decide +kernel
theorem dL_law_327 : decode cL_law 327 = .ok (.aload_n 3, 1) := by decide +kernel
theorem dL_law_328 : decode cL_law 328 = .ok (.iconst 0, 1) := by decide +kernel
theorem dL_law_329 : decode cL_law 329 = .ok (.laload, 1) := by decide +kernel
theorem dL_law_330 : decode cL_law 330 = .ok (.iload 6, 2) := by decide +kernel
theorem dL_law_332 : decode cL_law 332 = .ok (.i2l, 1) := by decide +kernel
theorem dL_law_333 : decode cL_law 333 = .ok (.lcmp, 1) := by decide +kernel
theorem dL_law_334 : decode cL_law 334 = .ok (.ifCond .eq 5, 3) := by decide +kernel
theorem dL_law_342 : decode cL_law 342 = .ok (.aload_n 1, 1) := by decide +kernel
theorem dL_law_343 : decode cL_law 343 = .ok (.aload_n 0, 1) := by decide +kernel
theorem dL_law_344 : decode cL_law 344 = .ok (.iload 4, 2) := by decide +kernel
theorem dL_law_346 : decode cL_law 346 = .ok (.iconst 1, 1) := by decide +kernel
theorem dL_law_347 : decode cL_law 347 = .ok (.iadd, 1) := by decide +kernel
theorem dL_law_348 : decode cL_law 348 = .ok (.iaload, 1) := by decide +kernel
theorem dL_law_349 : decode cL_law 349 = .ok (.aload_n 3, 1) := by decide +kernel
theorem dL_law_350 : decode cL_law 350 = .ok (.invokestatic 89, 3) := by decide +kernel
theorem dL_law_353 : decode cL_law 353 = .ok (.istore 5, 2) := by decide +kernel
theorem dL_law_355 : decode cL_law 355 = .ok (.aload_n 2, 1) := by decide +kernel
theorem dL_law_356 : decode cL_law 356 = .ok (.aload_n 0, 1) := by decide +kernel
theorem dL_law_357 : decode cL_law 357 = .ok (.iload 4, 2) := by decide +kernel
theorem dL_law_359 : decode cL_law 359 = .ok (.iconst 1, 1) := by decide +kernel
theorem dL_law_360 : decode cL_law 360 = .ok (.iadd, 1) := by decide +kernel
theorem dL_law_361 : decode cL_law 361 = .ok (.iaload, 1) := by decide +kernel
theorem dL_law_362 : decode cL_law 362 = .ok (.invokevirtual 91, 3) := by decide +kernel
theorem dL_law_365 : decode cL_law 365 = .ok (.istore 6, 2) := by decide +kernel
theorem dL_law_367 : decode cL_law 367 = .ok (.aload_n 2, 1) := by decide +kernel
theorem dL_law_368 : decode cL_law 368 = .ok (.invokevirtual 70, 3) := by decide +kernel
theorem dL_law_371 : decode cL_law 371 = .ok (.iload 5, 2) := by decide +kernel
theorem dL_law_373 : decode cL_law 373 = .ok (.if_icmp .eq 5, 3) := by decide +kernel
theorem dL_law_378 : decode cL_law 378 = .ok (.iload 5, 2) := by decide +kernel
theorem dL_law_380 : decode cL_law 380 = .ok (.ifCond .ne 15, 3) := by decide +kernel
theorem dL_law_395 : decode cL_law 395 = .ok (.goto 438, 3) := by decide +kernel
theorem dL_law_383 : decode cL_law 383 = .ok (.aload_n 3, 1) := by decide +kernel
theorem dL_law_384 : decode cL_law 384 = .ok (.iconst 0, 1) := by decide +kernel
theorem dL_law_385 : decode cL_law 385 = .ok (.laload, 1) := by decide +kernel
theorem dL_law_386 : decode cL_law 386 = .ok (.iload 6, 2) := by decide +kernel
theorem dL_law_388 : decode cL_law 388 = .ok (.i2l, 1) := by decide +kernel
theorem dL_law_389 : decode cL_law 389 = .ok (.lcmp, 1) := by decide +kernel
theorem dL_law_390 : decode cL_law 390 = .ok (.ifCond .eq 5, 3) := by decide +kernel
theorem dL_law_398 : decode cL_law 398 = .ok (.aload_n 1, 1) := by decide +kernel
theorem dL_law_399 : decode cL_law 399 = .ok (.aload_n 3, 1) := by decide +kernel
theorem dL_law_400 : decode cL_law 400 = .ok (.invokestatic 92, 3) := by decide +kernel
theorem dL_law_403 : decode cL_law 403 = .ok (.istore 5, 2) := by decide +kernel
theorem dL_law_405 : decode cL_law 405 = .ok (.aload_n 2, 1) := by decide +kernel
theorem dL_law_406 : decode cL_law 406 = .ok (.invokevirtual 94, 3) := by decide +kernel
theorem dL_law_409 : decode cL_law 409 = .ok (.istore 6, 2) := by decide +kernel
theorem dL_law_411 : decode cL_law 411 = .ok (.aload_n 2, 1) := by decide +kernel
theorem dL_law_412 : decode cL_law 412 = .ok (.invokevirtual 70, 3) := by decide +kernel
theorem dL_law_415 : decode cL_law 415 = .ok (.iload 5, 2) := by decide +kernel
theorem dL_law_417 : decode cL_law 417 = .ok (.if_icmp .eq 5, 3) := by decide +kernel
theorem dL_law_422 : decode cL_law 422 = .ok (.iload 5, 2) := by decide +kernel
theorem dL_law_424 : decode cL_law 424 = .ok (.ifCond .ne 15, 3) := by decide +kernel
theorem dL_law_439 : decode cL_law 439 = .ok (.goto 394, 3) := by decide +kernel
theorem dL_law_427 : decode cL_law 427 = .ok (.aload_n 3, 1) := by decide +kernel
theorem dL_law_428 : decode cL_law 428 = .ok (.iconst 0, 1) := by decide +kernel
theorem dL_law_429 : decode cL_law 429 = .ok (.laload, 1) := by decide +kernel
theorem dL_law_430 : decode cL_law 430 = .ok (.iload 6, 2) := by decide +kernel
theorem dL_law_432 : decode cL_law 432 = .ok (.i2l, 1) := by decide +kernel
theorem dL_law_433 : decode cL_law 433 = .ok (.lcmp, 1) := by decide +kernel
theorem dL_law_434 : decode cL_law 434 = .ok (.ifCond .eq 5, 3) := by decide +kernel
theorem dL_law_442 : decode cL_law 442 = .ok (.aload_n 1, 1) := by decide +kernel
theorem dL_law_443 : decode cL_law 443 = .ok (.aload_n 0, 1) := by decide +kernel
theorem dL_law_444 : decode cL_law 444 = .ok (.iload 4, 2) := by decide +kernel
theorem dL_law_446 : decode cL_law 446 = .ok (.iconst 1, 1) := by decide +kernel
theorem dL_law_447 : decode cL_law 447 = .ok (.iadd, 1) := by decide +kernel
theorem dL_law_448 : decode cL_law 448 = .ok (.iaload, 1) := by decide +kernel
theorem dL_law_449 : decode cL_law 449 = .ok (.aload_n 3, 1) := by decide +kernel
theorem dL_law_450 : decode cL_law 450 = .ok (.invokestatic 95, 3) := by decide +kernel
theorem dL_law_453 : decode cL_law 453 = .ok (.istore 5, 2) := by decide +kernel
theorem dL_law_455 : decode cL_law 455 = .ok (.aload_n 2, 1) := by decide +kernel
theorem dL_law_456 : decode cL_law 456 = .ok (.aload_n 0, 1) := by decide +kernel
theorem dL_law_457 : decode cL_law 457 = .ok (.iload 4, 2) := by decide +kernel
theorem dL_law_459 : decode cL_law 459 = .ok (.iconst 1, 1) := by decide +kernel
theorem dL_law_460 : decode cL_law 460 = .ok (.iadd, 1) := by decide +kernel
theorem dL_law_461 : decode cL_law 461 = .ok (.iaload, 1) := by decide +kernel
theorem dL_law_462 : decode cL_law 462 = .ok (.invokevirtual 97, 3) := by decide +kernel
theorem dL_law_465 : decode cL_law 465 = .ok (.istore 6, 2) := by decide +kernel
theorem dL_law_467 : decode cL_law 467 = .ok (.aload_n 2, 1) := by decide +kernel
theorem dL_law_468 : decode cL_law 468 = .ok (.invokevirtual 70, 3) := by decide +kernel
theorem dL_law_471 : decode cL_law 471 = .ok (.iload 5, 2) := by decide +kernel
theorem dL_law_473 : decode cL_law 473 = .ok (.if_icmp .eq 5, 3) := by decide +kernel
theorem dL_law_478 : decode cL_law 478 = .ok (.iload 5, 2) := by decide +kernel
theorem dL_law_480 : decode cL_law 480 = .ok (.ifCond .ne 15, 3) := by decide +kernel
theorem dL_law_495 : decode cL_law 495 = .ok (.goto 338, 3) := by decide +kernel
theorem dL_law_483 : decode cL_law 483 = .ok (.aload_n 3, 1) := by decide +kernel
theorem dL_law_484 : decode cL_law 484 = .ok (.iconst 0, 1) := by decide +kernel
theorem dL_law_485 : decode cL_law 485 = .ok (.laload, 1) := by decide +kernel
theorem dL_law_486 : decode cL_law 486 = .ok (.iload 6, 2) := by decide +kernel
theorem dL_law_488 : decode cL_law 488 = .ok (.i2l, 1) := by decide +kernel
theorem dL_law_489 : decode cL_law 489 = .ok (.lcmp, 1) := by decide +kernel
theorem dL_law_490 : decode cL_law 490 = .ok (.ifCond .eq 5, 3) := by decide +kernel
theorem dL_law_498 : decode cL_law 498 = .ok (.aload_n 1, 1) := by decide +kernel
theorem dL_law_499 : decode cL_law 499 = .ok (.aload_n 0, 1) := by decide +kernel
theorem dL_law_500 : decode cL_law 500 = .ok (.iload 4, 2) := by decide +kernel
theorem dL_law_502 : decode cL_law 502 = .ok (.iconst 1, 1) := by decide +kernel
theorem dL_law_503 : decode cL_law 503 = .ok (.iadd, 1) := by decide +kernel
theorem dL_law_504 : decode cL_law 504 = .ok (.iaload, 1) := by decide +kernel
theorem dL_law_505 : decode cL_law 505 = .ok (.aload_n 3, 1) := by decide +kernel
theorem dL_law_506 : decode cL_law 506 = .ok (.invokestatic 98, 3) := by decide +kernel
theorem dL_law_509 : decode cL_law 509 = .ok (.istore 5, 2) := by decide +kernel
theorem dL_law_511 : decode cL_law 511 = .ok (.aload_n 2, 1) := by decide +kernel
theorem dL_law_512 : decode cL_law 512 = .ok (.aload_n 0, 1) := by decide +kernel
theorem dL_law_513 : decode cL_law 513 = .ok (.iload 4, 2) := by decide +kernel
theorem dL_law_515 : decode cL_law 515 = .ok (.iconst 1, 1) := by decide +kernel
theorem dL_law_516 : decode cL_law 516 = .ok (.iadd, 1) := by decide +kernel
theorem dL_law_517 : decode cL_law 517 = .ok (.iaload, 1) := by decide +kernel
theorem dL_law_518 : decode cL_law 518 = .ok (.invokevirtual 100, 3) := by decide +kernel
theorem dL_law_521 : decode cL_law 521 = .ok (.istore 6, 2) := by decide +kernel
theorem dL_law_523 : decode cL_law 523 = .ok (.aload_n 2, 1) := by decide +kernel
theorem dL_law_524 : decode cL_law 524 = .ok (.invokevirtual 70, 3) := by decide +kernel
theorem dL_law_527 : decode cL_law 527 = .ok (.iload 5, 2) := by decide +kernel
theorem dL_law_529 : decode cL_law 529 = .ok (.if_icmp .eq 5, 3) := by decide +kernel
theorem dL_law_534 : decode cL_law 534 = .ok (.iload 5, 2) := by decide +kernel
theorem dL_law_536 : decode cL_law 536 = .ok (.ifCond .ne 15, 3) := by decide +kernel
theorem dL_law_551 : decode cL_law 551 = .ok (.goto 282, 3) := by decide +kernel
theorem dL_law_539 : decode cL_law 539 = .ok (.aload_n 3, 1) := by decide +kernel
theorem dL_law_540 : decode cL_law 540 = .ok (.iconst 0, 1) := by decide +kernel
theorem dL_law_541 : decode cL_law 541 = .ok (.laload, 1) := by decide +kernel
theorem dL_law_542 : decode cL_law 542 = .ok (.iload 6, 2) := by decide +kernel
theorem dL_law_544 : decode cL_law 544 = .ok (.i2l, 1) := by decide +kernel
theorem dL_law_545 : decode cL_law 545 = .ok (.lcmp, 1) := by decide +kernel
theorem dL_law_546 : decode cL_law 546 = .ok (.ifCond .eq 5, 3) := by decide +kernel
theorem dL_law_554 : decode cL_law 554 = .ok (.aload_n 1, 1) := by decide +kernel
theorem dL_law_555 : decode cL_law 555 = .ok (.aload_n 0, 1) := by decide +kernel
theorem dL_law_556 : decode cL_law 556 = .ok (.iload 4, 2) := by decide +kernel
theorem dL_law_558 : decode cL_law 558 = .ok (.iconst 1, 1) := by decide +kernel
theorem dL_law_559 : decode cL_law 559 = .ok (.iadd, 1) := by decide +kernel
theorem dL_law_560 : decode cL_law 560 = .ok (.iaload, 1) := by decide +kernel
theorem dL_law_561 : decode cL_law 561 = .ok (.aload_n 3, 1) := by decide +kernel
theorem dL_law_562 : decode cL_law 562 = .ok (.invokestatic 101, 3) := by decide +kernel
theorem dL_law_565 : decode cL_law 565 = .ok (.istore 5, 2) := by decide +kernel
theorem dL_law_567 : decode cL_law 567 = .ok (.aload_n 2, 1) := by decide +kernel
theorem dL_law_568 : decode cL_law 568 = .ok (.aload_n 0, 1) := by decide +kernel
theorem dL_law_569 : decode cL_law 569 = .ok (.iload 4, 2) := by decide +kernel
theorem dL_law_571 : decode cL_law 571 = .ok (.iconst 1, 1) := by decide +kernel
theorem dL_law_572 : decode cL_law 572 = .ok (.iadd, 1) := by decide +kernel
theorem dL_law_573 : decode cL_law 573 = .ok (.iaload, 1) := by decide +kernel
theorem dL_law_574 : decode cL_law 574 = .ok (.invokevirtual 103, 3) := by decide +kernel
theorem dL_law_577 : decode cL_law 577 = .ok (.istore 6, 2) := by decide +kernel
theorem dL_law_579 : decode cL_law 579 = .ok (.aload_n 2, 1) := by decide +kernel
theorem dL_law_580 : decode cL_law 580 = .ok (.invokevirtual 70, 3) := by decide +kernel
theorem dL_law_583 : decode cL_law 583 = .ok (.iload 5, 2) := by decide +kernel
theorem dL_law_585 : decode cL_law 585 = .ok (.if_icmp .eq 5, 3) := by decide +kernel
theorem dL_law_590 : decode cL_law 590 = .ok (.iload 5, 2) := by decide +kernel
theorem dL_law_592 : decode cL_law 592 = .ok (.ifCond .ne 15, 3) := by decide +kernel
theorem dL_law_607 : decode cL_law 607 = .ok (.goto 226, 3) := by decide +kernel
theorem dL_law_595 : decode cL_law 595 = .ok (.aload_n 3, 1) := by decide +kernel
theorem dL_law_596 : decode cL_law 596 = .ok (.iconst 0, 1) := by decide +kernel
theorem dL_law_597 : decode cL_law 597 = .ok (.laload, 1) := by decide +kernel
theorem dL_law_598 : decode cL_law 598 = .ok (.iload 6, 2) := by decide +kernel
theorem dL_law_600 : decode cL_law 600 = .ok (.i2l, 1) := by decide +kernel
theorem dL_law_601 : decode cL_law 601 = .ok (.lcmp, 1) := by decide +kernel
theorem dL_law_602 : decode cL_law 602 = .ok (.ifCond .eq 5, 3) := by decide +kernel
theorem dL_law_610 : decode cL_law 610 = .ok (.aload_n 1, 1) := by decide +kernel
theorem dL_law_611 : decode cL_law 611 = .ok (.aload_n 0, 1) := by decide +kernel
theorem dL_law_612 : decode cL_law 612 = .ok (.iload 4, 2) := by decide +kernel
theorem dL_law_614 : decode cL_law 614 = .ok (.iconst 1, 1) := by decide +kernel
theorem dL_law_615 : decode cL_law 615 = .ok (.iadd, 1) := by decide +kernel
theorem dL_law_616 : decode cL_law 616 = .ok (.iaload, 1) := by decide +kernel
theorem dL_law_617 : decode cL_law 617 = .ok (.aload_n 3, 1) := by decide +kernel
theorem dL_law_618 : decode cL_law 618 = .ok (.invokestatic 104, 3) := by decide +kernel
theorem dL_law_621 : decode cL_law 621 = .ok (.istore 5, 2) := by decide +kernel
theorem dL_law_623 : decode cL_law 623 = .ok (.aload_n 2, 1) := by decide +kernel
theorem dL_law_624 : decode cL_law 624 = .ok (.aload_n 0, 1) := by decide +kernel
theorem dL_law_625 : decode cL_law 625 = .ok (.iload 4, 2) := by decide +kernel
theorem dL_law_627 : decode cL_law 627 = .ok (.iconst 1, 1) := by decide +kernel
theorem dL_law_628 : decode cL_law 628 = .ok (.iadd, 1) := by decide +kernel
theorem dL_law_629 : decode cL_law 629 = .ok (.iaload, 1) := by decide +kernel
theorem dL_law_630 : decode cL_law 630 = .ok (.invokevirtual 106, 3) := by decide +kernel
theorem dL_law_633 : decode cL_law 633 = .ok (.istore 6, 2) := by decide +kernel
theorem dL_law_635 : decode cL_law 635 = .ok (.aload_n 2, 1) := by decide +kernel
theorem dL_law_636 : decode cL_law 636 = .ok (.invokevirtual 70, 3) := by decide +kernel
theorem dL_law_639 : decode cL_law 639 = .ok (.iload 5, 2) := by decide +kernel
theorem dL_law_641 : decode cL_law 641 = .ok (.if_icmp .eq 5, 3) := by decide +kernel
theorem dL_law_646 : decode cL_law 646 = .ok (.iload 5, 2) := by decide +kernel
theorem dL_law_648 : decode cL_law 648 = .ok (.ifCond .ne 15, 3) := by decide +kernel
theorem dL_law_663 : decode cL_law 663 = .ok (.goto 170, 3) := by decide +kernel
theorem dL_law_651 : decode cL_law 651 = .ok (.aload_n 3, 1) := by decide +kernel
theorem dL_law_652 : decode cL_law 652 = .ok (.iconst 0, 1) := by decide +kernel
theorem dL_law_653 : decode cL_law 653 = .ok (.laload, 1) := by decide +kernel
theorem dL_law_654 : decode cL_law 654 = .ok (.iload 6, 2) := by decide +kernel
theorem dL_law_656 : decode cL_law 656 = .ok (.i2l, 1) := by decide +kernel
theorem dL_law_657 : decode cL_law 657 = .ok (.lcmp, 1) := by decide +kernel
theorem dL_law_658 : decode cL_law 658 = .ok (.ifCond .eq 5, 3) := by decide +kernel
theorem dL_law_666 : decode cL_law 666 = .ok (.aload_n 1, 1) := by decide +kernel
theorem dL_law_667 : decode cL_law 667 = .ok (.aload_n 0, 1) := by decide +kernel
theorem dL_law_668 : decode cL_law 668 = .ok (.iload 4, 2) := by decide +kernel
theorem dL_law_670 : decode cL_law 670 = .ok (.iconst 1, 1) := by decide +kernel
theorem dL_law_671 : decode cL_law 671 = .ok (.iadd, 1) := by decide +kernel
theorem dL_law_672 : decode cL_law 672 = .ok (.iaload, 1) := by decide +kernel
theorem dL_law_673 : decode cL_law 673 = .ok (.aload_n 0, 1) := by decide +kernel
theorem dL_law_674 : decode cL_law 674 = .ok (.iload 4, 2) := by decide +kernel
theorem dL_law_676 : decode cL_law 676 = .ok (.iconst 2, 1) := by decide +kernel
theorem dL_law_677 : decode cL_law 677 = .ok (.iadd, 1) := by decide +kernel
theorem dL_law_678 : decode cL_law 678 = .ok (.iaload, 1) := by decide +kernel
theorem dL_law_679 : decode cL_law 679 = .ok (.aload_n 3, 1) := by decide +kernel
theorem dL_law_680 : decode cL_law 680 = .ok (.invokestatic 107, 3) := by decide +kernel
theorem dL_law_683 : decode cL_law 683 = .ok (.istore 5, 2) := by decide +kernel
theorem dL_law_685 : decode cL_law 685 = .ok (.aload_n 2, 1) := by decide +kernel
theorem dL_law_686 : decode cL_law 686 = .ok (.aload_n 0, 1) := by decide +kernel
theorem dL_law_687 : decode cL_law 687 = .ok (.iload 4, 2) := by decide +kernel
theorem dL_law_689 : decode cL_law 689 = .ok (.iconst 1, 1) := by decide +kernel
theorem dL_law_690 : decode cL_law 690 = .ok (.iadd, 1) := by decide +kernel
theorem dL_law_691 : decode cL_law 691 = .ok (.iaload, 1) := by decide +kernel
theorem dL_law_692 : decode cL_law 692 = .ok (.aload_n 0, 1) := by decide +kernel
theorem dL_law_693 : decode cL_law 693 = .ok (.iload 4, 2) := by decide +kernel
theorem dL_law_695 : decode cL_law 695 = .ok (.iconst 2, 1) := by decide +kernel
theorem dL_law_696 : decode cL_law 696 = .ok (.iadd, 1) := by decide +kernel
theorem dL_law_697 : decode cL_law 697 = .ok (.iaload, 1) := by decide +kernel
theorem dL_law_698 : decode cL_law 698 = .ok (.invokevirtual 110, 3) := by decide +kernel
theorem dL_law_701 : decode cL_law 701 = .ok (.istore 6, 2) := by decide +kernel
theorem dL_law_703 : decode cL_law 703 = .ok (.aload_n 2, 1) := by decide +kernel
theorem dL_law_704 : decode cL_law 704 = .ok (.invokevirtual 70, 3) := by decide +kernel
theorem dL_law_707 : decode cL_law 707 = .ok (.iload 5, 2) := by decide +kernel
theorem dL_law_709 : decode cL_law 709 = .ok (.if_icmp .eq 5, 3) := by decide +kernel
theorem dL_law_714 : decode cL_law 714 = .ok (.iload 5, 2) := by decide +kernel
theorem dL_law_716 : decode cL_law 716 = .ok (.ifCond .ne 15, 3) := by decide +kernel
theorem dL_law_731 : decode cL_law 731 = .ok (.goto 102, 3) := by decide +kernel
theorem dL_law_719 : decode cL_law 719 = .ok (.aload_n 3, 1) := by decide +kernel
theorem dL_law_720 : decode cL_law 720 = .ok (.iconst 0, 1) := by decide +kernel
theorem dL_law_721 : decode cL_law 721 = .ok (.laload, 1) := by decide +kernel
theorem dL_law_722 : decode cL_law 722 = .ok (.iload 6, 2) := by decide +kernel
theorem dL_law_724 : decode cL_law 724 = .ok (.i2l, 1) := by decide +kernel
theorem dL_law_725 : decode cL_law 725 = .ok (.lcmp, 1) := by decide +kernel
theorem dL_law_726 : decode cL_law 726 = .ok (.ifCond .eq 5, 3) := by decide +kernel
theorem dL_law_734 : decode cL_law 734 = .ok (.aload_n 1, 1) := by decide +kernel
theorem dL_law_735 : decode cL_law 735 = .ok (.aload_n 3, 1) := by decide +kernel
theorem dL_law_736 : decode cL_law 736 = .ok (.invokestatic 111, 3) := by decide +kernel
theorem dL_law_739 : decode cL_law 739 = .ok (.istore 5, 2) := by decide +kernel
theorem dL_law_741 : decode cL_law 741 = .ok (.aload_n 2, 1) := by decide +kernel
theorem dL_law_742 : decode cL_law 742 = .ok (.invokevirtual 113, 3) := by decide +kernel
theorem dL_law_745 : decode cL_law 745 = .ok (.istore 6, 2) := by decide +kernel
theorem dL_law_747 : decode cL_law 747 = .ok (.aload_n 2, 1) := by decide +kernel
theorem dL_law_748 : decode cL_law 748 = .ok (.invokevirtual 70, 3) := by decide +kernel
theorem dL_law_751 : decode cL_law 751 = .ok (.iload 5, 2) := by decide +kernel
theorem dL_law_753 : decode cL_law 753 = .ok (.if_icmp .eq 5, 3) := by decide +kernel
theorem dL_law_758 : decode cL_law 758 = .ok (.iload 5, 2) := by decide +kernel
theorem dL_law_760 : decode cL_law 760 = .ok (.ifCond .ne 15, 3) := by decide +kernel
theorem dL_law_775 : decode cL_law 775 = .ok (.goto 58, 3) := by decide +kernel
theorem dL_law_763 : decode cL_law 763 = .ok (.aload_n 3, 1) := by decide +kernel
theorem dL_law_764 : decode cL_law 764 = .ok (.iconst 0, 1) := by decide +kernel
theorem dL_law_765 : decode cL_law 765 = .ok (.laload, 1) := by decide +kernel
theorem dL_law_766 : decode cL_law 766 = .ok (.iload 6, 2) := by decide +kernel
theorem dL_law_768 : decode cL_law 768 = .ok (.i2l, 1) := by decide +kernel
theorem dL_law_769 : decode cL_law 769 = .ok (.lcmp, 1) := by decide +kernel
theorem dL_law_770 : decode cL_law 770 = .ok (.ifCond .eq 5, 3) := by decide +kernel
theorem dL_law_778 : decode cL_law 778 = .ok (.aload_n 1, 1) := by decide +kernel
theorem dL_law_779 : decode cL_law 779 = .ok (.aload_n 0, 1) := by decide +kernel
theorem dL_law_780 : decode cL_law 780 = .ok (.iload 4, 2) := by decide +kernel
theorem dL_law_782 : decode cL_law 782 = .ok (.iconst 1, 1) := by decide +kernel
theorem dL_law_783 : decode cL_law 783 = .ok (.iadd, 1) := by decide +kernel
theorem dL_law_784 : decode cL_law 784 = .ok (.iaload, 1) := by decide +kernel
theorem dL_law_785 : decode cL_law 785 = .ok (.aload_n 3, 1) := by decide +kernel
theorem dL_law_786 : decode cL_law 786 = .ok (.invokestatic 114, 3) := by decide +kernel
theorem dL_law_789 : decode cL_law 789 = .ok (.istore 5, 2) := by decide +kernel
theorem dL_law_791 : decode cL_law 791 = .ok (.aload_n 2, 1) := by decide +kernel
theorem dL_law_792 : decode cL_law 792 = .ok (.aload_n 0, 1) := by decide +kernel
theorem dL_law_793 : decode cL_law 793 = .ok (.iload 4, 2) := by decide +kernel
theorem dL_law_795 : decode cL_law 795 = .ok (.iconst 1, 1) := by decide +kernel
theorem dL_law_796 : decode cL_law 796 = .ok (.iadd, 1) := by decide +kernel
theorem dL_law_797 : decode cL_law 797 = .ok (.iaload, 1) := by decide +kernel
theorem dL_law_798 : decode cL_law 798 = .ok (.invokevirtual 116, 3) := by decide +kernel
theorem dL_law_801 : decode cL_law 801 = .ok (.lstore 6, 2) := by decide +kernel
theorem dL_law_803 : decode cL_law 803 = .ok (.aload_n 2, 1) := by decide +kernel
theorem dL_law_804 : decode cL_law 804 = .ok (.invokevirtual 70, 3) := by decide +kernel
theorem dL_law_807 : decode cL_law 807 = .ok (.iload 5, 2) := by decide +kernel
theorem dL_law_809 : decode cL_law 809 = .ok (.if_icmp .eq 5, 3) := by decide +kernel
theorem dL_law_814 : decode cL_law 814 = .ok (.iload 5, 2) := by decide +kernel
theorem dL_law_816 : decode cL_law 816 = .ok (.ifCond .ne 14, 3) := by decide +kernel
theorem dL_law_830 : decode cL_law 830 = .ok (.goto 3, 3) := by decide +kernel
theorem dL_law_819 : decode cL_law 819 = .ok (.aload_n 3, 1) := by decide +kernel
theorem dL_law_820 : decode cL_law 820 = .ok (.iconst 0, 1) := by decide +kernel
theorem dL_law_821 : decode cL_law 821 = .ok (.laload, 1) := by decide +kernel
theorem dL_law_822 : decode cL_law 822 = .ok (.lload 6, 2) := by decide +kernel
theorem dL_law_824 : decode cL_law 824 = .ok (.lcmp, 1) := by decide +kernel
theorem dL_law_825 : decode cL_law 825 = .ok (.ifCond .eq 5, 3) := by decide +kernel
theorem z_cmp {x y v : Int64} (h : x = v) (h2 : y = v) : lg_cmp x y = 0 := by rw [h, h2]; simp [lg_cmp]
