/-! instructions over zI -/
section PR
variable {P : pm_P} {mi pc : Nat} {lv : pm_L} {st : List Value} {σ : pm_S} {res : pm_O × pm_S}
theorem pm_Ev.iadd {a b : Int} (hc : pm_cod P mi pc = some (.iadd, 1)) (k : pm_Ev P (mi, pc + 1, lv, .int (zI (a + b)) :: st) σ res) : pm_Ev P (mi, pc, lv, .int (zI b) :: .int (zI a) :: st) σ res := by
  refine pm_Ev.in hc rfl ?_ k
  show some (pc + 1, lv, Value.int (zI a + zI b) :: st, σ) = _
  rw [zI_add]
theorem pm_Ev.isub {a b : Int} (hc : pm_cod P mi pc = some (.isub, 1)) (k : pm_Ev P (mi, pc + 1, lv, .int (zI (a - b)) :: st) σ res) : pm_Ev P (mi, pc, lv, .int (zI b) :: .int (zI a) :: st) σ res := by
  refine pm_Ev.in hc rfl ?_ k
  show some (pc + 1, lv, Value.int (zI a - zI b) :: st, σ) = _
  rw [zI_sub]
theorem pm_Ev.imul {a b : Int} (hc : pm_cod P mi pc = some (.imul, 1)) (k : pm_Ev P (mi, pc + 1, lv, .int (zI (a * b)) :: st) σ res) : pm_Ev P (mi, pc, lv, .int (zI b) :: .int (zI a) :: st) σ res := by
  refine pm_Ev.in hc rfl ?_ k
  show some (pc + 1, lv, Value.int (zI a * zI b) :: st, σ) = _
  rw [zI_mul]
theorem pm_Ev.ladd {a b : Int} (hc : pm_cod P mi pc = some (.ladd, 1)) (k : pm_Ev P (mi, pc + 1, lv, .long (zL (a + b)) :: st) σ res) : pm_Ev P (mi, pc, lv, .long (zL b) :: .long (zL a) :: st) σ res := by
  refine pm_Ev.in hc rfl ?_ k
  show some (pc + 1, lv, Value.long (zL a + zL b) :: st, σ) = _
  rw [zL_add]
theorem pm_Ev.lsub {a b : Int} (hc : pm_cod P mi pc = some (.lsub, 1)) (k : pm_Ev P (mi, pc + 1, lv, .long (zL (a - b)) :: st) σ res) : pm_Ev P (mi, pc, lv, .long (zL b) :: .long (zL a) :: st) σ res := by
  refine pm_Ev.in hc rfl ?_ k
  show some (pc + 1, lv, Value.long (zL a - zL b) :: st, σ) = _
  rw [zL_sub]
theorem pm_Ev.lmul {a b : Int} (hc : pm_cod P mi pc = some (.lmul, 1)) (k : pm_Ev P (mi, pc + 1, lv, .long (zL (a * b)) :: st) σ res) : pm_Ev P (mi, pc, lv, .long (zL b) :: .long (zL a) :: st) σ res := by
  refine pm_Ev.in hc rfl ?_ k
  show some (pc + 1, lv, Value.long (zL a * zL b) :: st, σ) = _
  rw [zL_mul]
theorem pm_Ev.ineg {a : Int} (hc : pm_cod P mi pc = some (.ineg, 1)) (k : pm_Ev P (mi, pc + 1, lv, .int (zI (-a)) :: st) σ res) : pm_Ev P (mi, pc, lv, .int (zI a) :: st) σ res := by
  refine pm_Ev.in hc rfl ?_ k
  show some (pc + 1, lv, Value.int (- zI a) :: st, σ) = _
  rw [zI_neg]
theorem pm_Ev.idiv {a b : Int} (hc : pm_cod P mi pc = some (.idiv, 1)) (h : 0 ≤ a ∧ a ≤ 2147483647 ∧ 0 < b ∧ b ≤ 2147483647) (k : pm_Ev P (mi, pc + 1, lv, .int (zI (a / b)) :: st) σ res) : pm_Ev P (mi, pc, lv, .int (zI b) :: .int (zI a) :: st) σ res := by
  refine pm_Ev.in hc rfl ?_ k
  have hb : ¬ zI b = 0 := fun e => by
    have := (zI_inj (a := b) (b := 0) (by omega) (by omega) (by omega) (by omega)).mp e
    omega
  obtain ⟨h1, h2, h3, h4⟩ := h
  rw [← zI_div h1 h2 h3 h4]
  unfold pm_in
  simp only [pm_i1, pm_i2, pm_i3, if_neg hb, pm_wp]
theorem pm_Ev.irem {a b : Int} (hc : pm_cod P mi pc = some (.irem, 1)) (h : 0 ≤ a ∧ a ≤ 2147483647 ∧ 0 < b ∧ b ≤ 2147483647) (k : pm_Ev P (mi, pc + 1, lv, .int (zI (a % b)) :: st) σ res) : pm_Ev P (mi, pc, lv, .int (zI b) :: .int (zI a) :: st) σ res := by
  refine pm_Ev.in hc rfl ?_ k
  have hb : ¬ zI b = 0 := fun e => by
    have := (zI_inj (a := b) (b := 0) (by omega) (by omega) (by omega) (by omega)).mp e
    omega
  obtain ⟨h1, h2, h3, h4⟩ := h
  rw [← zI_rem h1 h2 h3 h4]
  unfold pm_in
  simp only [pm_i1, pm_i2, pm_i3, if_neg hb, pm_wp]
theorem pm_Ev.ldiv {a b : Int} (hc : pm_cod P mi pc = some (.ldiv, 1)) (h : 0 ≤ a ∧ a ≤ 9223372036854775807 ∧ 0 < b ∧ b ≤ 9223372036854775807) (k : pm_Ev P (mi, pc + 1, lv, .long (zL (a / b)) :: st) σ res) : pm_Ev P (mi, pc, lv, .long (zL b) :: .long (zL a) :: st) σ res := by
  refine pm_Ev.in hc rfl ?_ k
  have hb : ¬ zL b = 0 := fun e => by
    have := (zL_inj (a := b) (b := 0) (by omega) (by omega) (by omega) (by omega)).mp e
    omega
  obtain ⟨h1, h2, h3, h4⟩ := h
  rw [← zL_div h1 h2 h3 h4]
  unfold pm_in
  simp only [pm_i1, pm_i2, pm_i3, if_neg hb, pm_wp]
theorem pm_Ev.lrem {a b : Int} (hc : pm_cod P mi pc = some (.lrem, 1)) (h : 0 ≤ a ∧ a ≤ 9223372036854775807 ∧ 0 < b ∧ b ≤ 9223372036854775807) (k : pm_Ev P (mi, pc + 1, lv, .long (zL (a % b)) :: st) σ res) : pm_Ev P (mi, pc, lv, .long (zL b) :: .long (zL a) :: st) σ res := by
  refine pm_Ev.in hc rfl ?_ k
  have hb : ¬ zL b = 0 := fun e => by
    have := (zL_inj (a := b) (b := 0) (by omega) (by omega) (by omega) (by omega)).mp e
    omega
  obtain ⟨h1, h2, h3, h4⟩ := h
  rw [← zL_rem h1 h2 h3 h4]
  unfold pm_in
  simp only [pm_i1, pm_i2, pm_i3, if_neg hb, pm_wp]
theorem pm_Ev.i2l {a : Int} (hc : pm_cod P mi pc = some (.i2l, 1)) (h : -2147483648 ≤ a ∧ a ≤ 2147483647) (k : pm_Ev P (mi, pc + 1, lv, .long (zL a) :: st) σ res) : pm_Ev P (mi, pc, lv, .int (zI a) :: st) σ res := by
  refine pm_Ev.in hc rfl ?_ k
  show some (pc + 1, lv, Value.long (zI a).toInt64 :: st, σ) = _
  rw [zL_ofI h.1 h.2]
theorem pm_Ev.l2i {a : Int} (hc : pm_cod P mi pc = some (.l2i, 1)) (k : pm_Ev P (mi, pc + 1, lv, .int (zI a) :: st) σ res) : pm_Ev P (mi, pc, lv, .long (zL a) :: st) σ res := by
  refine pm_Ev.in hc rfl ?_ k
  show some (pc + 1, lv, Value.int (zL a).toInt32 :: st, σ) = _
  rw [zL_to]
theorem pm_Ev.bp {n : Int} (hc : pm_cod P mi pc = some (.bipush n, 2)) (h : (Int8.ofInt n).toInt32 = zI n) (k : pm_Ev P (mi, pc + 2, lv, .int (zI n) :: st) σ res) : pm_Ev P (mi, pc, lv, st) σ res := by
  refine pm_Ev.in hc rfl ?_ k
  show some (pc + 2, lv, Value.int (Int8.ofInt n).toInt32 :: st, σ) = _
  rw [h]
theorem pm_Ev.sp {n : Int} (hc : pm_cod P mi pc = some (.sipush n, 3)) (h : (Int16.ofInt n).toInt32 = zI n) (k : pm_Ev P (mi, pc + 3, lv, .int (zI n) :: st) σ res) : pm_Ev P (mi, pc, lv, st) σ res := by
  refine pm_Ev.in hc rfl ?_ k
  show some (pc + 3, lv, Value.int (Int16.ofInt n).toInt32 :: st, σ) = _
  rw [h]
theorem pm_Ev.ic {n : Int} (hc : pm_cod P mi pc = some (.iconst n, 1)) (k : pm_Ev P (mi, pc + 1, lv, .int (zI n) :: st) σ res) : pm_Ev P (mi, pc, lv, st) σ res := pm_Ev.in hc rfl rfl k
theorem pm_Ev.lc {n : Fin 2} (z : Int) (hc : pm_cod P mi pc = some (.lconst n, 1)) (h : Int64.ofNat (n : Nat) = zL z) (k : pm_Ev P (mi, pc + 1, lv, .long (zL z) :: st) σ res) : pm_Ev P (mi, pc, lv, st) σ res := by
  refine pm_Ev.in hc rfl ?_ k
  show some (pc + 1, lv, Value.long (Int64.ofNat (n : Nat)) :: st, σ) = _
  rw [h]
theorem pm_Ev.cc1 {ix : Nat} (z : Int) {v : Int32} (hc : pm_cod P mi pc = some (.ldc ix, 2)) (h1 : pm_cst P mi ix = some (.int v)) (h : v = zI z) (k : pm_Ev P (mi, pc + 2, lv, .int (zI z) :: st) σ res) : pm_Ev P (mi, pc, lv, st) σ res := by
  refine pm_Ev.in hc rfl ?_ k
  unfold pm_in
  simp only [pm_i1, h1, h, pm_wp]
theorem pm_Ev.cc2 {ix : Nat} (z : Int) {v : Int64} (hc : pm_cod P mi pc = some (.ldc2_w ix, 3)) (h1 : pm_cst P mi ix = some (.long v)) (h : v = zL z) (k : pm_Ev P (mi, pc + 3, lv, .long (zL z) :: st) σ res) : pm_Ev P (mi, pc, lv, st) σ res := by
  refine pm_Ev.in hc rfl ?_ k
  unfold pm_in
  simp only [pm_i1, h1, h, pm_wp]
theorem pm_Ev.inc {i : Nat} {n a : Int} (hc : pm_cod P mi pc = some (.iinc i n, 3)) (hl : pm_lk lv i = some (.int (zI a))) (hm : i < pm_mxl P mi) (k : pm_Ev P (mi, pc + 3, pm_st1 lv i (.int (zI (a + n))), st) σ res) : pm_Ev P (mi, pc, lv, st) σ res := by
  refine pm_Ev.in hc rfl ?_ k
  rw [← zI_add]
  unfold pm_in
  simp only [pm_i1, pm_i2, hl, if_pos hm, pm_wp]
  rfl
theorem pm_Ev.lcmp {a b : Int} (hc : pm_cod P mi pc = some (.lcmp, 1)) (h : -9223372036854775808 ≤ a ∧ a ≤ 9223372036854775807 ∧ -9223372036854775808 ≤ b ∧ b ≤ 9223372036854775807) (k : pm_Ev P (mi, pc + 1, lv, .int (zI (if b < a then 1 else if a = b then 0 else -1)) :: st) σ res) : pm_Ev P (mi, pc, lv, .long (zL b) :: .long (zL a) :: st) σ res := by
  refine pm_Ev.in hc rfl ?_ k
  have e : lg_cmp (zL a) (zL b) = zI (if b < a then 1 else if a = b then 0 else -1) := by
    obtain ⟨h1, h2, h3, h4⟩ := h
    unfold lg_cmp
    by_cases c1 : b < a
    · rw [if_pos c1, if_pos ((zL_lt h3 h4 h1 h2).mpr c1)]; rfl
    · rw [if_neg c1, if_neg (fun q => c1 ((zL_lt h3 h4 h1 h2).mp q))]
      by_cases c2 : a = b
      · rw [if_pos c2, if_pos ((zL_inj h1 h2 h3 h4).mpr c2)]; rfl
      · rw [if_neg c2, if_neg (fun q => c2 ((zL_inj h1 h2 h3 h4).mp q))]; rfl
  rw [← e]
  rfl
theorem pm_Ev.jeq {a b off : Int} {tgt : Nat} (hc : pm_cod P mi pc = some (.if_icmp .eq off, 3)) (h : -2147483648 ≤ a ∧ a ≤ 2147483647 ∧ -2147483648 ≤ b ∧ b ≤ 2147483647) (ht : (pc : Int) + off = (tgt : Int)) (kt : a = b → pm_Ev P (mi, tgt, lv, st) σ res) (kf : ¬ (a = b) → pm_Ev P (mi, pc + 3, lv, st) σ res) : pm_Ev P (mi, pc, lv, .int (zI b) :: .int (zI a) :: st) σ res := by
  obtain ⟨h1, h2, h3, h4⟩ := h
  exact pm_Ev.br (c := zI a = zI b) hc rfl rfl rfl rfl rfl ht (fun q => kt ((zI_inj h1 h2 h3 h4).mp q)) (fun q => kf (fun r => q ((zI_inj h1 h2 h3 h4).mpr r)))
theorem pm_Ev.zeq {a off : Int} {tgt : Nat} (hc : pm_cod P mi pc = some (.ifCond .eq off, 3)) (h : -2147483648 ≤ a ∧ a ≤ 2147483647) (ht : (pc : Int) + off = (tgt : Int)) (kt : a = 0 → pm_Ev P (mi, tgt, lv, st) σ res) (kf : ¬ (a = 0) → pm_Ev P (mi, pc + 3, lv, st) σ res) : pm_Ev P (mi, pc, lv, .int (zI a) :: st) σ res := by
  obtain ⟨h1, h2⟩ := h
  have h3 : -2147483648 ≤ (0 : Int) := by omega
  have h4 : (0 : Int) ≤ 2147483647 := by omega
  exact pm_Ev.br (c := zI a = 0) hc rfl rfl rfl rfl rfl ht (fun q => kt ((zI_inj h1 h2 h3 h4).mp q)) (fun q => kf (fun r => q ((zI_inj h1 h2 h3 h4).mpr r)))
theorem pm_Ev.jne {a b off : Int} {tgt : Nat} (hc : pm_cod P mi pc = some (.if_icmp .ne off, 3)) (h : -2147483648 ≤ a ∧ a ≤ 2147483647 ∧ -2147483648 ≤ b ∧ b ≤ 2147483647) (ht : (pc : Int) + off = (tgt : Int)) (kt : ¬ a = b → pm_Ev P (mi, tgt, lv, st) σ res) (kf : ¬ (¬ a = b) → pm_Ev P (mi, pc + 3, lv, st) σ res) : pm_Ev P (mi, pc, lv, .int (zI b) :: .int (zI a) :: st) σ res := by
  obtain ⟨h1, h2, h3, h4⟩ := h
  exact pm_Ev.br (c := ¬ zI a = zI b) hc rfl rfl rfl rfl rfl ht (fun q => kt ((not_congr (zI_inj h1 h2 h3 h4)).mp q)) (fun q => kf (fun r => q ((not_congr (zI_inj h1 h2 h3 h4)).mpr r)))
theorem pm_Ev.zne {a off : Int} {tgt : Nat} (hc : pm_cod P mi pc = some (.ifCond .ne off, 3)) (h : -2147483648 ≤ a ∧ a ≤ 2147483647) (ht : (pc : Int) + off = (tgt : Int)) (kt : ¬ a = 0 → pm_Ev P (mi, tgt, lv, st) σ res) (kf : ¬ (¬ a = 0) → pm_Ev P (mi, pc + 3, lv, st) σ res) : pm_Ev P (mi, pc, lv, .int (zI a) :: st) σ res := by
  obtain ⟨h1, h2⟩ := h
  have h3 : -2147483648 ≤ (0 : Int) := by omega
  have h4 : (0 : Int) ≤ 2147483647 := by omega
  exact pm_Ev.br (c := ¬ zI a = 0) hc rfl rfl rfl rfl rfl ht (fun q => kt ((not_congr (zI_inj h1 h2 h3 h4)).mp q)) (fun q => kf (fun r => q ((not_congr (zI_inj h1 h2 h3 h4)).mpr r)))
theorem pm_Ev.jlt {a b off : Int} {tgt : Nat} (hc : pm_cod P mi pc = some (.if_icmp .lt off, 3)) (h : -2147483648 ≤ a ∧ a ≤ 2147483647 ∧ -2147483648 ≤ b ∧ b ≤ 2147483647) (ht : (pc : Int) + off = (tgt : Int)) (kt : a < b → pm_Ev P (mi, tgt, lv, st) σ res) (kf : ¬ (a < b) → pm_Ev P (mi, pc + 3, lv, st) σ res) : pm_Ev P (mi, pc, lv, .int (zI b) :: .int (zI a) :: st) σ res := by
  obtain ⟨h1, h2, h3, h4⟩ := h
  exact pm_Ev.br (c := zI a < zI b) hc rfl rfl rfl rfl rfl ht (fun q => kt ((zI_lt h1 h2 h3 h4).mp q)) (fun q => kf (fun r => q ((zI_lt h1 h2 h3 h4).mpr r)))
theorem pm_Ev.zlt {a off : Int} {tgt : Nat} (hc : pm_cod P mi pc = some (.ifCond .lt off, 3)) (h : -2147483648 ≤ a ∧ a ≤ 2147483647) (ht : (pc : Int) + off = (tgt : Int)) (kt : a < 0 → pm_Ev P (mi, tgt, lv, st) σ res) (kf : ¬ (a < 0) → pm_Ev P (mi, pc + 3, lv, st) σ res) : pm_Ev P (mi, pc, lv, .int (zI a) :: st) σ res := by
  obtain ⟨h1, h2⟩ := h
  have h3 : -2147483648 ≤ (0 : Int) := by omega
  have h4 : (0 : Int) ≤ 2147483647 := by omega
  exact pm_Ev.br (c := zI a < 0) hc rfl rfl rfl rfl rfl ht (fun q => kt ((zI_lt h1 h2 h3 h4).mp q)) (fun q => kf (fun r => q ((zI_lt h1 h2 h3 h4).mpr r)))
theorem pm_Ev.jge {a b off : Int} {tgt : Nat} (hc : pm_cod P mi pc = some (.if_icmp .ge off, 3)) (h : -2147483648 ≤ a ∧ a ≤ 2147483647 ∧ -2147483648 ≤ b ∧ b ≤ 2147483647) (ht : (pc : Int) + off = (tgt : Int)) (kt : b ≤ a → pm_Ev P (mi, tgt, lv, st) σ res) (kf : ¬ (b ≤ a) → pm_Ev P (mi, pc + 3, lv, st) σ res) : pm_Ev P (mi, pc, lv, .int (zI b) :: .int (zI a) :: st) σ res := by
  obtain ⟨h1, h2, h3, h4⟩ := h
  exact pm_Ev.br (c := zI b ≤ zI a) hc rfl rfl rfl rfl rfl ht (fun q => kt ((zI_le h3 h4 h1 h2).mp q)) (fun q => kf (fun r => q ((zI_le h3 h4 h1 h2).mpr r)))
theorem pm_Ev.zge {a off : Int} {tgt : Nat} (hc : pm_cod P mi pc = some (.ifCond .ge off, 3)) (h : -2147483648 ≤ a ∧ a ≤ 2147483647) (ht : (pc : Int) + off = (tgt : Int)) (kt : 0 ≤ a → pm_Ev P (mi, tgt, lv, st) σ res) (kf : ¬ (0 ≤ a) → pm_Ev P (mi, pc + 3, lv, st) σ res) : pm_Ev P (mi, pc, lv, .int (zI a) :: st) σ res := by
  obtain ⟨h1, h2⟩ := h
  have h3 : -2147483648 ≤ (0 : Int) := by omega
  have h4 : (0 : Int) ≤ 2147483647 := by omega
  exact pm_Ev.br (c := 0 ≤ zI a) hc rfl rfl rfl rfl rfl ht (fun q => kt ((zI_le h3 h4 h1 h2).mp q)) (fun q => kf (fun r => q ((zI_le h3 h4 h1 h2).mpr r)))
theorem pm_Ev.jgt {a b off : Int} {tgt : Nat} (hc : pm_cod P mi pc = some (.if_icmp .gt off, 3)) (h : -2147483648 ≤ a ∧ a ≤ 2147483647 ∧ -2147483648 ≤ b ∧ b ≤ 2147483647) (ht : (pc : Int) + off = (tgt : Int)) (kt : b < a → pm_Ev P (mi, tgt, lv, st) σ res) (kf : ¬ (b < a) → pm_Ev P (mi, pc + 3, lv, st) σ res) : pm_Ev P (mi, pc, lv, .int (zI b) :: .int (zI a) :: st) σ res := by
  obtain ⟨h1, h2, h3, h4⟩ := h
  exact pm_Ev.br (c := zI b < zI a) hc rfl rfl rfl rfl rfl ht (fun q => kt ((zI_lt h3 h4 h1 h2).mp q)) (fun q => kf (fun r => q ((zI_lt h3 h4 h1 h2).mpr r)))
theorem pm_Ev.zgt {a off : Int} {tgt : Nat} (hc : pm_cod P mi pc = some (.ifCond .gt off, 3)) (h : -2147483648 ≤ a ∧ a ≤ 2147483647) (ht : (pc : Int) + off = (tgt : Int)) (kt : 0 < a → pm_Ev P (mi, tgt, lv, st) σ res) (kf : ¬ (0 < a) → pm_Ev P (mi, pc + 3, lv, st) σ res) : pm_Ev P (mi, pc, lv, .int (zI a) :: st) σ res := by
  obtain ⟨h1, h2⟩ := h
  have h3 : -2147483648 ≤ (0 : Int) := by omega
  have h4 : (0 : Int) ≤ 2147483647 := by omega
  exact pm_Ev.br (c := 0 < zI a) hc rfl rfl rfl rfl rfl ht (fun q => kt ((zI_lt h3 h4 h1 h2).mp q)) (fun q => kf (fun r => q ((zI_lt h3 h4 h1 h2).mpr r)))
theorem pm_Ev.jle {a b off : Int} {tgt : Nat} (hc : pm_cod P mi pc = some (.if_icmp .le off, 3)) (h : -2147483648 ≤ a ∧ a ≤ 2147483647 ∧ -2147483648 ≤ b ∧ b ≤ 2147483647) (ht : (pc : Int) + off = (tgt : Int)) (kt : a ≤ b → pm_Ev P (mi, tgt, lv, st) σ res) (kf : ¬ (a ≤ b) → pm_Ev P (mi, pc + 3, lv, st) σ res) : pm_Ev P (mi, pc, lv, .int (zI b) :: .int (zI a) :: st) σ res := by
  obtain ⟨h1, h2, h3, h4⟩ := h
  exact pm_Ev.br (c := zI a ≤ zI b) hc rfl rfl rfl rfl rfl ht (fun q => kt ((zI_le h1 h2 h3 h4).mp q)) (fun q => kf (fun r => q ((zI_le h1 h2 h3 h4).mpr r)))
theorem pm_Ev.zle {a off : Int} {tgt : Nat} (hc : pm_cod P mi pc = some (.ifCond .le off, 3)) (h : -2147483648 ≤ a ∧ a ≤ 2147483647) (ht : (pc : Int) + off = (tgt : Int)) (kt : a ≤ 0 → pm_Ev P (mi, tgt, lv, st) σ res) (kf : ¬ (a ≤ 0) → pm_Ev P (mi, pc + 3, lv, st) σ res) : pm_Ev P (mi, pc, lv, .int (zI a) :: st) σ res := by
  obtain ⟨h1, h2⟩ := h
  have h3 : -2147483648 ≤ (0 : Int) := by omega
  have h4 : (0 : Int) ≤ 2147483647 := by omega
  exact pm_Ev.br (c := zI a ≤ 0) hc rfl rfl rfl rfl rfl ht (fun q => kt ((zI_le h1 h2 h3 h4).mp q)) (fun q => kf (fun r => q ((zI_le h1 h2 h3 h4).mpr r)))
theorem pm_Ev.ri {a : Int} (hc : pm_cod P mi pc = some (.ireturn, 1)) (hr : pm_ret P mi = some .int) : pm_Ev P (mi, pc, lv, [.int (zI a)]) σ (.inl (some (.int (zI a))), σ) := by
  refine pm_Ev.ret hc rfl rfl ?_
  unfold pm_dn
  simp only [hr, pm_ok, if_true]
end PR
