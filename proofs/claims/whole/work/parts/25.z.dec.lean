theorem tq_ck_law : tq_ck 1 = true := by
  refine List.all_eq_true.mpr fun pc hpc => ?_
  have hpc : pc < 1839 := List.mem_range.mp hpc
  have key : ∀ a b : Nat, (List.range b).all (fun j => tq_ck1 1 (a + j)) = true → a ≤ pc → pc < a + b → tq_ck1 1 pc = true := by
    intro a b h h2 h3
    have h4 := List.all_eq_true.mp h (pc - a) (List.mem_range.mpr (by omega))
    rwa [show a + (pc - a) = pc by omega] at h4
  by_cases g0 : pc < 40
  · exact key 0 40 tq_cs_0 (by omega) (by omega)
  by_cases g1 : pc < 80
  · exact key 40 40 tq_cs_1 (by omega) (by omega)
  by_cases g2 : pc < 120
  · exact key 80 40 tq_cs_2 (by omega) (by omega)
  by_cases g3 : pc < 160
  · exact key 120 40 tq_cs_3 (by omega) (by omega)
  by_cases g4 : pc < 200
  · exact key 160 40 tq_cs_4 (by omega) (by omega)
  by_cases g5 : pc < 240
  · exact key 200 40 tq_cs_5 (by omega) (by omega)
  by_cases g6 : pc < 280
  · exact key 240 40 tq_cs_6 (by omega) (by omega)
  by_cases g7 : pc < 320
  · exact key 280 40 tq_cs_7 (by omega) (by omega)
  by_cases g8 : pc < 360
  · exact key 320 40 tq_cs_8 (by omega) (by omega)
  by_cases g9 : pc < 400
  · exact key 360 40 tq_cs_9 (by omega) (by omega)
  by_cases g10 : pc < 440
  · exact key 400 40 tq_cs_10 (by omega) (by omega)
  by_cases g11 : pc < 480
  · exact key 440 40 tq_cs_11 (by omega) (by omega)
  by_cases g12 : pc < 520
  · exact key 480 40 tq_cs_12 (by omega) (by omega)
  by_cases g13 : pc < 560
  · exact key 520 40 tq_cs_13 (by omega) (by omega)
  by_cases g14 : pc < 600
  · exact key 560 40 tq_cs_14 (by omega) (by omega)
  by_cases g15 : pc < 640
  · exact key 600 40 tq_cs_15 (by omega) (by omega)
  by_cases g16 : pc < 680
  · exact key 640 40 tq_cs_16 (by omega) (by omega)
  by_cases g17 : pc < 720
  · exact key 680 40 tq_cs_17 (by omega) (by omega)
  by_cases g18 : pc < 760
  · exact key 720 40 tq_cs_18 (by omega) (by omega)
  by_cases g19 : pc < 800
  · exact key 760 40 tq_cs_19 (by omega) (by omega)
  by_cases g20 : pc < 840
  · exact key 800 40 tq_cs_20 (by omega) (by omega)
  by_cases g21 : pc < 880
  · exact key 840 40 tq_cs_21 (by omega) (by omega)
  by_cases g22 : pc < 920
  · exact key 880 40 tq_cs_22 (by omega) (by omega)
  by_cases g23 : pc < 960
  · exact key 920 40 tq_cs_23 (by omega) (by omega)
  by_cases g24 : pc < 1000
  · exact key 960 40 tq_cs_24 (by omega) (by omega)
  by_cases g25 : pc < 1040
  · exact key 1000 40 tq_cs_25 (by omega) (by omega)
  by_cases g26 : pc < 1080
  · exact key 1040 40 tq_cs_26 (by omega) (by omega)
  by_cases g27 : pc < 1120
  · exact key 1080 40 tq_cs_27 (by omega) (by omega)
  by_cases g28 : pc < 1160
  · exact key 1120 40 tq_cs_28 (by omega) (by omega)
  by_cases g29 : pc < 1200
  · exact key 1160 40 tq_cs_29 (by omega) (by omega)
  by_cases g30 : pc < 1240
  · exact key 1200 40 tq_cs_30 (by omega) (by omega)
  by_cases g31 : pc < 1280
  · exact key 1240 40 tq_cs_31 (by omega) (by omega)
  by_cases g32 : pc < 1320
  · exact key 1280 40 tq_cs_32 (by omega) (by omega)
  by_cases g33 : pc < 1360
  · exact key 1320 40 tq_cs_33 (by omega) (by omega)
  by_cases g34 : pc < 1400
  · exact key 1360 40 tq_cs_34 (by omega) (by omega)
  by_cases g35 : pc < 1440
  · exact key 1400 40 tq_cs_35 (by omega) (by omega)
  by_cases g36 : pc < 1480
  · exact key 1440 40 tq_cs_36 (by omega) (by omega)
  by_cases g37 : pc < 1520
  · exact key 1480 40 tq_cs_37 (by omega) (by omega)
  by_cases g38 : pc < 1560
  · exact key 1520 40 tq_cs_38 (by omega) (by omega)
  by_cases g39 : pc < 1600
  · exact key 1560 40 tq_cs_39 (by omega) (by omega)
  by_cases g40 : pc < 1640
  · exact key 1600 40 tq_cs_40 (by omega) (by omega)
  by_cases g41 : pc < 1680
  · exact key 1640 40 tq_cs_41 (by omega) (by omega)
  by_cases g42 : pc < 1720
  · exact key 1680 40 tq_cs_42 (by omega) (by omega)
  by_cases g43 : pc < 1760
  · exact key 1720 40 tq_cs_43 (by omega) (by omega)
  by_cases g44 : pc < 1800
  · exact key 1760 40 tq_cs_44 (by omega) (by omega)
  by_cases g45 : pc < 1839
  · exact key 1800 39 tq_cs_45 (by omega) (by omega)
  omega
theorem tq_dec {mi pc n : Nat} {i : Instr} (hm : tq_dm mi = true) (h : tq_cod mi pc = some (i, n)) : decode (tq_mm mi).2 pc = .ok (i, n) := by
  have hck : tq_ck mi = true := by
    have h1 : 1 ≤ mi ∧ mi ≤ 202 := by simpa [tq_dm] using hm
    have key : ∀ a b : Nat, (List.range b).all (fun j => tq_ck (a + j)) = true → a ≤ mi → mi < a + b → tq_ck mi = true := by
      intro a b h h2 h3
      have h4 := List.all_eq_true.mp h (mi - a) (List.mem_range.mpr (by omega))
      rwa [show a + (mi - a) = mi by omega] at h4
    by_cases g1 : mi < 2
    · have e1 : mi = 1 := by omega
      rw [e1]; exact tq_ck_law
    by_cases g2 : mi < 9
    · exact key 2 7 tq_ck_2 (by omega) (by omega)
    by_cases g9 : mi < 23
    · exact key 9 14 tq_ck_9 (by omega) (by omega)
    by_cases g23 : mi < 27
    · exact key 23 4 tq_ck_23 (by omega) (by omega)
    by_cases g27 : mi < 44
    · exact key 27 17 tq_ck_27 (by omega) (by omega)
    by_cases g44 : mi < 66
    · exact key 44 22 tq_ck_44 (by omega) (by omega)
    by_cases g66 : mi < 79
    · exact key 66 13 tq_ck_66 (by omega) (by omega)
    by_cases g79 : mi < 94
    · exact key 79 15 tq_ck_79 (by omega) (by omega)
    by_cases g94 : mi < 112
    · exact key 94 18 tq_ck_94 (by omega) (by omega)
    by_cases g112 : mi < 120
    · exact key 112 8 tq_ck_112 (by omega) (by omega)
    by_cases g120 : mi < 122
    · exact key 120 2 tq_ck_120 (by omega) (by omega)
    by_cases g122 : mi < 126
    · exact key 122 4 tq_ck_122 (by omega) (by omega)
    by_cases g126 : mi < 129
    · exact key 126 3 tq_ck_126 (by omega) (by omega)
    by_cases g129 : mi < 130
    · exact key 129 1 tq_ck_129 (by omega) (by omega)
    by_cases g130 : mi < 136
    · exact key 130 6 tq_ck_130 (by omega) (by omega)
    by_cases g136 : mi < 143
    · exact key 136 7 tq_ck_136 (by omega) (by omega)
    by_cases g143 : mi < 150
    · exact key 143 7 tq_ck_143 (by omega) (by omega)
    by_cases g150 : mi < 153
    · exact key 150 3 tq_ck_150 (by omega) (by omega)
    by_cases g153 : mi < 158
    · exact key 153 5 tq_ck_153 (by omega) (by omega)
    by_cases g158 : mi < 160
    · exact key 158 2 tq_ck_158 (by omega) (by omega)
    by_cases g160 : mi < 174
    · exact key 160 14 tq_ck_160 (by omega) (by omega)
    by_cases g174 : mi < 203
    · exact key 174 29 tq_ck_174 (by omega) (by omega)
    omega
  unfold tq_cod at h
  cases hl : Nat.ble ((tq_me mi).2.2.2.2.2.2.2.2.2) pc with
  | true => rw [hl] at h; cases h
  | false =>
    rw [hl] at h
    have h : tq_ct mi pc = some (i, n) := h
    have hlt : pc < (tq_me mi).2.2.2.2.2.2.2.2.2 := by
      rcases Nat.lt_or_ge pc ((tq_me mi).2.2.2.2.2.2.2.2.2) with q | q
      · exact q
      · rw [Nat.ble_eq_true_of_le q] at hl; cases hl
    have h4 := List.all_eq_true.mp hck pc (List.mem_range.mpr hlt)
    unfold tq_ck1 at h4
    rw [h] at h4
    show decode (tq_me mi).2.2.2.2.1 pc = .ok (i, n)
    cases hd : decode (tq_me mi).2.2.2.2.1 pc with
    | ok r =>
      simp only [hd] at h4
      have h5 : r = (i, n) := of_decide_eq_true h4
      rw [h5]
    | error x => simp only [hd] at h4; cases h4
