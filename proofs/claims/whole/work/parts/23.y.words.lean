def tq_wh_1 : List Cond := (List.range 20).map fun j => tq_wh (1 + j)
theorem tq_ph_1 : tq_wh_1 = ([(0, 0), (2, 23), (3, 44), (3, 215), (3, 228), (4, 39), (4, 46), (4, 58), (4, 70), (4, 123), (4, 130), (4, 137), (4, 154), (4, 162), (4, 169), (4, 199), (4, 210), (4, 221), (4, 236), (5, 7)] : List (Nat × Nat)).filterMap (fun q => (tq_bl q.1)[q.2]?) := by rfl
theorem tq_gh_1 : tq_wh_1.all goodWord = true := by decide +kernel
def tq_wh_21 : List Cond := (List.range 20).map fun j => tq_wh (21 + j)
theorem tq_ph_21 : tq_wh_21 = ([(5, 14), (5, 21), (5, 30), (2, 191), (2, 222), (5, 40), (3, 34), (5, 47), (5, 54), (5, 61), (5, 76), (3, 52), (3, 48), (3, 231), (3, 134), (3, 152), (2, 238), (4, 140), (4, 62), (4, 74)] : List (Nat × Nat)).filterMap (fun q => (tq_bl q.1)[q.2]?) := by rfl
theorem tq_gh_21 : tq_wh_21.all goodWord = true := by decide +kernel
def tq_wh_41 : List Cond := (List.range 20).map fun j => tq_wh (41 + j)
theorem tq_ph_41 : tq_wh_41 = ([(4, 78), (4, 173), (4, 176), (2, 234), (3, 30), (2, 31), (2, 97), (3, 187), (3, 191), (3, 204), (3, 208), (4, 203), (4, 214), (4, 225), (5, 0), (3, 195), (2, 92), (2, 199), (2, 203), (2, 212)] : List (Nat × Nat)).filterMap (fun q => (tq_bl q.1)[q.2]?) := by rfl
theorem tq_gh_41 : tq_wh_41.all goodWord = true := by decide +kernel
def tq_wh_61 : List Cond := (List.range 20).map fun j => tq_wh (61 + j)
theorem tq_ph_61 : tq_wh_61 = ([(4, 24), (2, 207), (2, 230), (3, 56), (3, 129), (4, 14), (3, 125), (3, 171), (3, 175), (4, 10), (5, 65), (4, 50), (5, 69), (4, 182), (4, 186), (3, 179), (3, 183), (3, 220), (4, 20), (4, 191)] : List (Nat × Nat)).filterMap (fun q => (tq_bl q.1)[q.2]?) := by rfl
theorem tq_gh_61 : tq_wh_61.all goodWord = true := by decide +kernel
def tq_wh_81 : List Cond := (List.range 20).map fun j => tq_wh (81 + j)
theorem tq_ph_81 : tq_wh_81 = ([(4, 28), (4, 32), (2, 132), (2, 195), (2, 217), (2, 155), (2, 226), (3, 6), (3, 18), (3, 22), (3, 26), (2, 38), (3, 199), (4, 229), (5, 81), (5, 142), (5, 150), (5, 190), (5, 214), (5, 186)] : List (Nat × Nat)).filterMap (fun q => (tq_bl q.1)[q.2]?) := by rfl
theorem tq_gh_81 : tq_wh_81.all goodWord = true := by decide +kernel
def tq_wh_101 : List Cond := (List.range 20).map fun j => tq_wh (101 + j)
theorem tq_ph_101 : tq_wh_101 = ([(5, 182), (5, 206), (5, 218), (5, 222), (5, 158), (5, 166), (5, 146), (5, 154), (5, 162), (5, 170), (5, 174), (5, 234), (5, 194), (5, 202), (6, 2), (6, 10), (5, 210), (5, 238), (5, 230), (5, 178)] : List (Nat × Nat)).filterMap (fun q => (tq_bl q.1)[q.2]?) := by rfl
theorem tq_gh_101 : tq_wh_101.all goodWord = true := by decide +kernel
def tq_wh_121 : List Cond := (List.range 20).map fun j => tq_wh (121 + j)
theorem tq_ph_121 : tq_wh_121 = ([(5, 197), (5, 226), (6, 14), (6, 6), (6, 18), (6, 22), (6, 30), (6, 26), (6, 34), (6, 65), (6, 69), (6, 73), (6, 77), (6, 82), (6, 94), (6, 90), (6, 86), (6, 59), (6, 56), (6, 47)] : List (Nat × Nat)).filterMap (fun q => (tq_bl q.1)[q.2]?) := by rfl
theorem tq_gh_121 : tq_wh_121.all goodWord = true := by decide +kernel
def tq_wh_141 : List Cond := (List.range 20).map fun j => tq_wh (141 + j)
theorem tq_ph_141 : tq_wh_141 = ([(6, 53), (6, 44), (6, 50), (6, 41), (6, 38), (6, 98), (6, 102), (6, 106), (6, 114), (6, 110), (6, 126), (6, 122), (6, 118), (6, 130), (6, 138), (6, 134), (6, 142), (6, 146), (6, 150), (6, 154)] : List (Nat × Nat)).filterMap (fun q => (tq_bl q.1)[q.2]?) := by rfl
theorem tq_gh_141 : tq_wh_141.all goodWord = true := by decide +kernel
def tq_wh_161 : List Cond := (List.range 20).map fun j => tq_wh (161 + j)
theorem tq_ph_161 : tq_wh_161 = ([(4, 143), (4, 147), (4, 81), (4, 84), (4, 87), (4, 101), (4, 112), (4, 93), (4, 90), (4, 109), (4, 98), (4, 104), (3, 37), (3, 211), (3, 223), (4, 35), (4, 42), (4, 54), (4, 66), (4, 119)] : List (Nat × Nat)).filterMap (fun q => (tq_bl q.1)[q.2]?) := by rfl
theorem tq_gh_161 : tq_wh_161.all goodWord = true := by decide +kernel
def tq_wh_181 : List Cond := (List.range 20).map fun j => tq_wh (181 + j)
theorem tq_ph_181 : tq_wh_181 = ([(4, 126), (4, 133), (4, 150), (4, 158), (4, 165), (4, 195), (4, 206), (4, 217), (4, 232), (5, 3), (5, 10), (5, 17), (5, 26), (5, 36), (5, 43), (5, 50), (5, 57), (5, 72), (2, 100), (2, 113)] : List (Nat × Nat)).filterMap (fun q => (tq_bl q.1)[q.2]?) := by rfl
theorem tq_gh_181 : tq_wh_181.all goodWord = true := by decide +kernel
def tq_wh_201 : List Cond := (List.range 2).map fun j => tq_wh (201 + j)
theorem tq_ph_201 : tq_wh_201 = ([(2, 103), (3, 9)] : List (Nat × Nat)).filterMap (fun q => (tq_bl q.1)[q.2]?) := by rfl
theorem tq_gh_201 : tq_wh_201.all goodWord = true := by decide +kernel
