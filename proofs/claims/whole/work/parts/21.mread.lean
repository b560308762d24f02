/-! the model's small methods -/
section
variable {X : pX} {d : Nat} {I : pI} {Q : Option Value → pG → pI → Prop} {N : Nat → Int32}
def cf (N : Nat → Int32) (c j : Nat) : Int32 := N (8 * c + j)
def gf (N : Nat → Int32) (g j : Nat) : Int32 := N (32 + 8 * g + j)
theorem c_in {G : pG} {a b c : Int64} : Call X (d + 1) 123 [.long a, .long b, .long c] G I Q ↔ if a < b then Q (some (.int (nI 0))) G I else if c < a then Q (some (.int (nI 0))) G I else Q (some (.int (nI 1))) G I := by
  simp only [e123, s123_0, s123_1, s123_2, s123_3, s123_6, s123_7, s123_9, s123_10, s123_13, s123_14, s123_17, s123_18, cmp_lt, cmp_gt, ro_0, ro_1]
theorem c_of {c j : Nat} (h : 8 * c + j < 452) : Call X (d + 1) 133 [.ref 102, .int (nI c), .int (nI j)] G0 (row I 103 N) Q ↔ Q (some (.int (cf N c j))) G0 (row I 103 N) := by
  simp (disch := omega) only [e133, s133_0, s133_1, s133_4, s133_6, s133_7, s133_8, s133_9, s133_10, s133_11, tl_s, tl_n, ok_i, ok_r, ok_n, cat_i, cat_r, cat_l, List.map_cons, List.map_nil, List.sum_cons, List.sum_nil, nI_add, pk_mul, i_cl, i_inb, row_s, u2_row, n103, t103, cf]
theorem c_sets {c j : Nat} {v : Int32} (h : 8 * c + j < 452) : Call X (d + 1) 134 [.ref 102, .int (nI c), .int (nI j), .int v] G0 (row I 103 N) Q ↔ Q none G0 (row I 103 (upd N (8 * c + j) v)) := by
  simp (disch := omega) only [e134, s134_0, s134_1, s134_4, s134_6, s134_7, s134_8, s134_9, s134_10, s134_11, s134_12, tl_s, tl_n, ok_i, ok_r, ok_n, cat_i, cat_r, cat_l, List.map_cons, List.map_nil, List.sum_cons, List.sum_nil, nI_add, pk_mul, i_cl, i_inb, row_s, u2_row, n103, t103]
theorem c_ofGroup {g j : Nat} (h : 32 + 8 * g + j < 452) : Call X (d + 1) 135 [.ref 102, .int (nI g), .int (nI j)] G0 (row I 103 N) Q ↔ Q (some (.int (gf N g j))) G0 (row I 103 N) := by
  simp (disch := omega) only [e135, s135_0, s135_1, s135_4, s135_6, s135_8, s135_9, s135_10, s135_11, s135_12, s135_13, s135_14, tl_s, tl_n, ok_i, ok_r, ok_n, cat_i, cat_r, cat_l, List.map_cons, List.map_nil, List.sum_cons, List.sum_nil, nI_add, pk_mul, i_cl, i_inb, row_s, u2_row, n103, t103, gf]
theorem c_setsGroup {g j : Nat} {v : Int32} (h : 32 + 8 * g + j < 452) : Call X (d + 1) 136 [.ref 102, .int (nI g), .int (nI j), .int v] G0 (row I 103 N) Q ↔ Q none G0 (row I 103 (upd N (32 + 8 * g + j) v)) := by
  simp (disch := omega) only [e136, s136_0, s136_1, s136_4, s136_6, s136_8, s136_9, s136_10, s136_11, s136_12, s136_13, s136_14, s136_15, tl_s, tl_n, ok_i, ok_r, ok_n, cat_i, cat_r, cat_l, List.map_cons, List.map_nil, List.sum_cons, List.sum_nil, nI_add, pk_mul, i_cl, i_inb, row_s, u2_row, n103, t103]
theorem c_isSo {g : Nat} {c h : Int32} (hg : g < 40) : Call X (d + 2) 137 [.ref 102, .int (nI g), .int c, .int h] G0 (row I 103 N) Q ↔ if gf N g 3 = c then (if gf N g 4 = h then Q (some (.int (nI 1))) G0 (row I 103 N) else Q (some (.int (nI 0))) G0 (row I 103 N)) else Q (some (.int (nI 0))) G0 (row I 103 N) := by
  simp (disch := omega) only [e137, s137_0, s137_1, s137_2, s137_3, s137_6, s137_7, s137_10, s137_11, s137_12, s137_13, s137_16, s137_17, s137_20, s137_21, s137_24, s137_25, tl_s, tl_n, ok_i, ok_r, ok_n, cat_i, cat_r, cat_l, List.map_cons, List.map_nil, List.sum_cons, List.sum_nil, nI_add, pk_mul, i_cl, i_inb, row_s, u2_row, n103, t103, c_ofGroup, ro_0, ro_1]
theorem c_floors : Call X (d + 1) 129 [.ref 102] G0 (row I 103 N) Q ↔ Q (some (.int (N 444))) G0 (row I 103 N) := by
  simp (disch := omega) only [e129, s129_0, s129_1, s129_4, s129_7, s129_8, tl_s, tl_n, ok_i, ok_r, ok_n, cat_i, cat_r, cat_l, List.map_cons, List.map_nil, List.sum_cons, List.sum_nil, nI_add, pk_mul, i_cl, i_inb, row_s, u2_row, n103, t103]
end
