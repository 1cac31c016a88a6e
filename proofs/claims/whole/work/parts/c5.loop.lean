/-! the law's loop, whole -/
def lw_tg : List (Int × Nat) := [(0, 216), (1, 289), (2, 314), (3, 327), (4, 340), (5, 408), (6, 445), (7, 470), (8, 507), (9, 532), (10, 581), (11, 606), (12, 631), (13, 656), (14, 681), (15, 706), (16, 719), (17, 756), (18, 781), (19, 806), (20, 831), (21, 844), (22, 857), (23, 882), (24, 895), (25, 908), (26, 921), (27, 934), (28, 959), (29, 1027), (30, 1052), (31, 1077), (32, 1114), (33, 1175), (34, 1200), (35, 1225), (36, 1238), (37, 1263), (38, 1288), (39, 1313)]
def lw_sw (x : Int32) (L : am_L) (h : am_H) : List (Bool × am_S) := lw_tg.map (fun q => (decide (x = Int32.ofInt q.1), (100, 304, q.2, L, [], h)))
set_option maxRecDepth 20000 in
theorem lw_sel (env : am_E) (L : am_L) (h : am_H) (x : Int32) : am_ls env (100, 304, 40, L, [.int x], h) = am_sel (lw_sw x L h) (some (100, 304, 1338, L, [], h)) := rfl
theorem lw_end (N : Nat) (xs : Nat → Int32) (i : Int32) : lwS N xs i 1338 := fun x5 x6 I J E hrel => ⟨x5, x6, I, J, E, hrel, lr_e⟩
theorem lw_sw0 (L : am_L) (h : am_H) : am_sel (lw_sw (Int32.ofNat 0) L h) (some (100, 304, 1338, L, [], h)) = some (100, 304, 216, L, [], h) := rfl
theorem lw_sw1 (L : am_L) (h : am_H) : am_sel (lw_sw (Int32.ofNat 1) L h) (some (100, 304, 1338, L, [], h)) = some (100, 304, 289, L, [], h) := rfl
theorem lw_sw2 (L : am_L) (h : am_H) : am_sel (lw_sw (Int32.ofNat 2) L h) (some (100, 304, 1338, L, [], h)) = some (100, 304, 314, L, [], h) := rfl
theorem lw_sw3 (L : am_L) (h : am_H) : am_sel (lw_sw (Int32.ofNat 3) L h) (some (100, 304, 1338, L, [], h)) = some (100, 304, 327, L, [], h) := rfl
theorem lw_sw4 (L : am_L) (h : am_H) : am_sel (lw_sw (Int32.ofNat 4) L h) (some (100, 304, 1338, L, [], h)) = some (100, 304, 340, L, [], h) := rfl
theorem lw_sw5 (L : am_L) (h : am_H) : am_sel (lw_sw (Int32.ofNat 5) L h) (some (100, 304, 1338, L, [], h)) = some (100, 304, 408, L, [], h) := rfl
theorem lw_sw6 (L : am_L) (h : am_H) : am_sel (lw_sw (Int32.ofNat 6) L h) (some (100, 304, 1338, L, [], h)) = some (100, 304, 445, L, [], h) := rfl
theorem lw_sw7 (L : am_L) (h : am_H) : am_sel (lw_sw (Int32.ofNat 7) L h) (some (100, 304, 1338, L, [], h)) = some (100, 304, 470, L, [], h) := rfl
theorem lw_sw8 (L : am_L) (h : am_H) : am_sel (lw_sw (Int32.ofNat 8) L h) (some (100, 304, 1338, L, [], h)) = some (100, 304, 507, L, [], h) := rfl
theorem lw_sw9 (L : am_L) (h : am_H) : am_sel (lw_sw (Int32.ofNat 9) L h) (some (100, 304, 1338, L, [], h)) = some (100, 304, 532, L, [], h) := rfl
theorem lw_sw10 (L : am_L) (h : am_H) : am_sel (lw_sw (Int32.ofNat 10) L h) (some (100, 304, 1338, L, [], h)) = some (100, 304, 581, L, [], h) := rfl
theorem lw_sw11 (L : am_L) (h : am_H) : am_sel (lw_sw (Int32.ofNat 11) L h) (some (100, 304, 1338, L, [], h)) = some (100, 304, 606, L, [], h) := rfl
theorem lw_sw12 (L : am_L) (h : am_H) : am_sel (lw_sw (Int32.ofNat 12) L h) (some (100, 304, 1338, L, [], h)) = some (100, 304, 631, L, [], h) := rfl
theorem lw_sw13 (L : am_L) (h : am_H) : am_sel (lw_sw (Int32.ofNat 13) L h) (some (100, 304, 1338, L, [], h)) = some (100, 304, 656, L, [], h) := rfl
theorem lw_sw14 (L : am_L) (h : am_H) : am_sel (lw_sw (Int32.ofNat 14) L h) (some (100, 304, 1338, L, [], h)) = some (100, 304, 681, L, [], h) := rfl
theorem lw_sw15 (L : am_L) (h : am_H) : am_sel (lw_sw (Int32.ofNat 15) L h) (some (100, 304, 1338, L, [], h)) = some (100, 304, 706, L, [], h) := rfl
theorem lw_sw16 (L : am_L) (h : am_H) : am_sel (lw_sw (Int32.ofNat 16) L h) (some (100, 304, 1338, L, [], h)) = some (100, 304, 719, L, [], h) := rfl
theorem lw_sw17 (L : am_L) (h : am_H) : am_sel (lw_sw (Int32.ofNat 17) L h) (some (100, 304, 1338, L, [], h)) = some (100, 304, 756, L, [], h) := rfl
theorem lw_sw18 (L : am_L) (h : am_H) : am_sel (lw_sw (Int32.ofNat 18) L h) (some (100, 304, 1338, L, [], h)) = some (100, 304, 781, L, [], h) := rfl
theorem lw_sw19 (L : am_L) (h : am_H) : am_sel (lw_sw (Int32.ofNat 19) L h) (some (100, 304, 1338, L, [], h)) = some (100, 304, 806, L, [], h) := rfl
theorem lw_sw20 (L : am_L) (h : am_H) : am_sel (lw_sw (Int32.ofNat 20) L h) (some (100, 304, 1338, L, [], h)) = some (100, 304, 831, L, [], h) := rfl
theorem lw_sw21 (L : am_L) (h : am_H) : am_sel (lw_sw (Int32.ofNat 21) L h) (some (100, 304, 1338, L, [], h)) = some (100, 304, 844, L, [], h) := rfl
theorem lw_sw22 (L : am_L) (h : am_H) : am_sel (lw_sw (Int32.ofNat 22) L h) (some (100, 304, 1338, L, [], h)) = some (100, 304, 857, L, [], h) := rfl
theorem lw_sw23 (L : am_L) (h : am_H) : am_sel (lw_sw (Int32.ofNat 23) L h) (some (100, 304, 1338, L, [], h)) = some (100, 304, 882, L, [], h) := rfl
theorem lw_sw24 (L : am_L) (h : am_H) : am_sel (lw_sw (Int32.ofNat 24) L h) (some (100, 304, 1338, L, [], h)) = some (100, 304, 895, L, [], h) := rfl
theorem lw_sw25 (L : am_L) (h : am_H) : am_sel (lw_sw (Int32.ofNat 25) L h) (some (100, 304, 1338, L, [], h)) = some (100, 304, 908, L, [], h) := rfl
theorem lw_sw26 (L : am_L) (h : am_H) : am_sel (lw_sw (Int32.ofNat 26) L h) (some (100, 304, 1338, L, [], h)) = some (100, 304, 921, L, [], h) := rfl
theorem lw_sw27 (L : am_L) (h : am_H) : am_sel (lw_sw (Int32.ofNat 27) L h) (some (100, 304, 1338, L, [], h)) = some (100, 304, 934, L, [], h) := rfl
theorem lw_sw28 (L : am_L) (h : am_H) : am_sel (lw_sw (Int32.ofNat 28) L h) (some (100, 304, 1338, L, [], h)) = some (100, 304, 959, L, [], h) := rfl
theorem lw_sw29 (L : am_L) (h : am_H) : am_sel (lw_sw (Int32.ofNat 29) L h) (some (100, 304, 1338, L, [], h)) = some (100, 304, 1027, L, [], h) := rfl
theorem lw_sw30 (L : am_L) (h : am_H) : am_sel (lw_sw (Int32.ofNat 30) L h) (some (100, 304, 1338, L, [], h)) = some (100, 304, 1052, L, [], h) := rfl
theorem lw_sw31 (L : am_L) (h : am_H) : am_sel (lw_sw (Int32.ofNat 31) L h) (some (100, 304, 1338, L, [], h)) = some (100, 304, 1077, L, [], h) := rfl
theorem lw_sw32 (L : am_L) (h : am_H) : am_sel (lw_sw (Int32.ofNat 32) L h) (some (100, 304, 1338, L, [], h)) = some (100, 304, 1114, L, [], h) := rfl
theorem lw_sw33 (L : am_L) (h : am_H) : am_sel (lw_sw (Int32.ofNat 33) L h) (some (100, 304, 1338, L, [], h)) = some (100, 304, 1175, L, [], h) := rfl
theorem lw_sw34 (L : am_L) (h : am_H) : am_sel (lw_sw (Int32.ofNat 34) L h) (some (100, 304, 1338, L, [], h)) = some (100, 304, 1200, L, [], h) := rfl
theorem lw_sw35 (L : am_L) (h : am_H) : am_sel (lw_sw (Int32.ofNat 35) L h) (some (100, 304, 1338, L, [], h)) = some (100, 304, 1225, L, [], h) := rfl
theorem lw_sw36 (L : am_L) (h : am_H) : am_sel (lw_sw (Int32.ofNat 36) L h) (some (100, 304, 1338, L, [], h)) = some (100, 304, 1238, L, [], h) := rfl
theorem lw_sw37 (L : am_L) (h : am_H) : am_sel (lw_sw (Int32.ofNat 37) L h) (some (100, 304, 1338, L, [], h)) = some (100, 304, 1263, L, [], h) := rfl
theorem lw_sw38 (L : am_L) (h : am_H) : am_sel (lw_sw (Int32.ofNat 38) L h) (some (100, 304, 1338, L, [], h)) = some (100, 304, 1288, L, [], h) := rfl
theorem lw_sw39 (L : am_L) (h : am_H) : am_sel (lw_sw (Int32.ofNat 39) L h) (some (100, 304, 1338, L, [], h)) = some (100, 304, 1313, L, [], h) := rfl
theorem lw_sw40 (L : am_L) (h : am_H) : am_sel (lw_sw (Int32.ofNat 40) L h) (some (100, 304, 1338, L, [], h)) = some (100, 304, 1338, L, [], h) := rfl
theorem lw_sw41 (L : am_L) (h : am_H) : am_sel (lw_sw (Int32.ofNat 41) L h) (some (100, 304, 1338, L, [], h)) = some (100, 304, 1338, L, [], h) := rfl
theorem lw_sw42 (L : am_L) (h : am_H) : am_sel (lw_sw (Int32.ofNat 42) L h) (some (100, 304, 1338, L, [], h)) = some (100, 304, 1338, L, [], h) := rfl
theorem lw_sw43 (L : am_L) (h : am_H) : am_sel (lw_sw (Int32.ofNat 43) L h) (some (100, 304, 1338, L, [], h)) = some (100, 304, 1338, L, [], h) := rfl
theorem lw_sw44 (L : am_L) (h : am_H) : am_sel (lw_sw (Int32.ofNat 44) L h) (some (100, 304, 1338, L, [], h)) = some (100, 304, 1338, L, [], h) := rfl
theorem lw_sw45 (L : am_L) (h : am_H) : am_sel (lw_sw (Int32.ofNat 45) L h) (some (100, 304, 1338, L, [], h)) = some (100, 304, 1338, L, [], h) := rfl
theorem lw_sw46 (L : am_L) (h : am_H) : am_sel (lw_sw (Int32.ofNat 46) L h) (some (100, 304, 1338, L, [], h)) = some (100, 304, 1338, L, [], h) := rfl
theorem lw_sw47 (L : am_L) (h : am_H) : am_sel (lw_sw (Int32.ofNat 47) L h) (some (100, 304, 1338, L, [], h)) = some (100, 304, 1338, L, [], h) := rfl
theorem lw_sw48 (L : am_L) (h : am_H) : am_sel (lw_sw (Int32.ofNat 48) L h) (some (100, 304, 1338, L, [], h)) = some (100, 304, 1338, L, [], h) := rfl
theorem lw_sw49 (L : am_L) (h : am_H) : am_sel (lw_sw (Int32.ofNat 49) L h) (some (100, 304, 1338, L, [], h)) = some (100, 304, 1338, L, [], h) := rfl
theorem lw_sw50 (L : am_L) (h : am_H) : am_sel (lw_sw (Int32.ofNat 50) L h) (some (100, 304, 1338, L, [], h)) = some (100, 304, 1338, L, [], h) := rfl
theorem lw_sw51 (L : am_L) (h : am_H) : am_sel (lw_sw (Int32.ofNat 51) L h) (some (100, 304, 1338, L, [], h)) = some (100, 304, 1338, L, [], h) := rfl
theorem lw_sw52 (L : am_L) (h : am_H) : am_sel (lw_sw (Int32.ofNat 52) L h) (some (100, 304, 1338, L, [], h)) = some (100, 304, 1338, L, [], h) := rfl
theorem lw_sw53 (L : am_L) (h : am_H) : am_sel (lw_sw (Int32.ofNat 53) L h) (some (100, 304, 1338, L, [], h)) = some (100, 304, 1338, L, [], h) := rfl
theorem lw_sw54 (L : am_L) (h : am_H) : am_sel (lw_sw (Int32.ofNat 54) L h) (some (100, 304, 1338, L, [], h)) = some (100, 304, 1338, L, [], h) := rfl
theorem lw_sw55 (L : am_L) (h : am_H) : am_sel (lw_sw (Int32.ofNat 55) L h) (some (100, 304, 1338, L, [], h)) = some (100, 304, 1338, L, [], h) := rfl
theorem lw_sw56 (L : am_L) (h : am_H) : am_sel (lw_sw (Int32.ofNat 56) L h) (some (100, 304, 1338, L, [], h)) = some (100, 304, 1338, L, [], h) := rfl
theorem lw_sw57 (L : am_L) (h : am_H) : am_sel (lw_sw (Int32.ofNat 57) L h) (some (100, 304, 1338, L, [], h)) = some (100, 304, 1338, L, [], h) := rfl
theorem lw_sw58 (L : am_L) (h : am_H) : am_sel (lw_sw (Int32.ofNat 58) L h) (some (100, 304, 1338, L, [], h)) = some (100, 304, 1338, L, [], h) := rfl
theorem lw_sw59 (L : am_L) (h : am_H) : am_sel (lw_sw (Int32.ofNat 59) L h) (some (100, 304, 1338, L, [], h)) = some (100, 304, 1338, L, [], h) := rfl
theorem lw_sw60 (L : am_L) (h : am_H) : am_sel (lw_sw (Int32.ofNat 60) L h) (some (100, 304, 1338, L, [], h)) = some (100, 304, 1338, L, [], h) := rfl
theorem lw_sw61 (L : am_L) (h : am_H) : am_sel (lw_sw (Int32.ofNat 61) L h) (some (100, 304, 1338, L, [], h)) = some (100, 304, 1338, L, [], h) := rfl
theorem lw_sw62 (L : am_L) (h : am_H) : am_sel (lw_sw (Int32.ofNat 62) L h) (some (100, 304, 1338, L, [], h)) = some (100, 304, 1338, L, [], h) := rfl
theorem lw_sw63 (L : am_L) (h : am_H) : am_sel (lw_sw (Int32.ofNat 63) L h) (some (100, 304, 1338, L, [], h)) = some (100, 304, 1338, L, [], h) := rfl
theorem lw_act (N : Nat) (xs : Nat → Int32) (i : Int32) (g : gI i N) (c : Nat) (hc : c < 64) : ∃ pc, (∀ (L : am_L) (h : am_H), am_sel (lw_sw (Int32.ofNat c) L h) (some (100, 304, 1338, L, [], h)) = some (100, 304, pc, L, [], h)) ∧ lwS N xs i pc := by
  rcases (show c = 0 ∨ c = 1 ∨ c = 2 ∨ c = 3 ∨ c = 4 ∨ c = 5 ∨ c = 6 ∨ c = 7 ∨ c = 8 ∨ c = 9 ∨ c = 10 ∨ c = 11 ∨ c = 12 ∨ c = 13 ∨ c = 14 ∨ c = 15 ∨ c = 16 ∨ c = 17 ∨ c = 18 ∨ c = 19 ∨ c = 20 ∨ c = 21 ∨ c = 22 ∨ c = 23 ∨ c = 24 ∨ c = 25 ∨ c = 26 ∨ c = 27 ∨ c = 28 ∨ c = 29 ∨ c = 30 ∨ c = 31 ∨ c = 32 ∨ c = 33 ∨ c = 34 ∨ c = 35 ∨ c = 36 ∨ c = 37 ∨ c = 38 ∨ c = 39 ∨ c = 40 ∨ c = 41 ∨ c = 42 ∨ c = 43 ∨ c = 44 ∨ c = 45 ∨ c = 46 ∨ c = 47 ∨ c = 48 ∨ c = 49 ∨ c = 50 ∨ c = 51 ∨ c = 52 ∨ c = 53 ∨ c = 54 ∨ c = 55 ∨ c = 56 ∨ c = 57 ∨ c = 58 ∨ c = 59 ∨ c = 60 ∨ c = 61 ∨ c = 62 ∨ c = 63 by omega) with rfl | rfl | rfl | rfl | rfl | rfl | rfl | rfl | rfl | rfl | rfl | rfl | rfl | rfl | rfl | rfl | rfl | rfl | rfl | rfl | rfl | rfl | rfl | rfl | rfl | rfl | rfl | rfl | rfl | rfl | rfl | rfl | rfl | rfl | rfl | rfl | rfl | rfl | rfl | rfl | rfl | rfl | rfl | rfl | rfl | rfl | rfl | rfl | rfl | rfl | rfl | rfl | rfl | rfl | rfl | rfl | rfl | rfl | rfl | rfl | rfl | rfl | rfl | rfl
  · exact ⟨_, lw_sw0, lw_0 N xs i g⟩
  · exact ⟨_, lw_sw1, lw_1 N xs i g⟩
  · exact ⟨_, lw_sw2, lw_2 N xs i g⟩
  · exact ⟨_, lw_sw3, lw_3 N xs i g⟩
  · exact ⟨_, lw_sw4, lw_4 N xs i g⟩
  · exact ⟨_, lw_sw5, lw_5 N xs i g⟩
  · exact ⟨_, lw_sw6, lw_6 N xs i g⟩
  · exact ⟨_, lw_sw7, lw_7 N xs i g⟩
  · exact ⟨_, lw_sw8, lw_8 N xs i g⟩
  · exact ⟨_, lw_sw9, lw_9 N xs i g⟩
  · exact ⟨_, lw_sw10, lw_10 N xs i g⟩
  · exact ⟨_, lw_sw11, lw_11 N xs i g⟩
  · exact ⟨_, lw_sw12, lw_12 N xs i g⟩
  · exact ⟨_, lw_sw13, lw_13 N xs i g⟩
  · exact ⟨_, lw_sw14, lw_14 N xs i g⟩
  · exact ⟨_, lw_sw15, lw_15 N xs i g⟩
  · exact ⟨_, lw_sw16, lw_16 N xs i g⟩
  · exact ⟨_, lw_sw17, lw_17 N xs i g⟩
  · exact ⟨_, lw_sw18, lw_18 N xs i g⟩
  · exact ⟨_, lw_sw19, lw_19 N xs i g⟩
  · exact ⟨_, lw_sw20, lw_20 N xs i g⟩
  · exact ⟨_, lw_sw21, lw_21 N xs i g⟩
  · exact ⟨_, lw_sw22, lw_22 N xs i g⟩
  · exact ⟨_, lw_sw23, lw_23 N xs i g⟩
  · exact ⟨_, lw_sw24, lw_24 N xs i g⟩
  · exact ⟨_, lw_sw25, lw_25 N xs i g⟩
  · exact ⟨_, lw_sw26, lw_26 N xs i g⟩
  · exact ⟨_, lw_sw27, lw_27 N xs i g⟩
  · exact ⟨_, lw_sw28, lw_28 N xs i g⟩
  · exact ⟨_, lw_sw29, lw_29 N xs i g⟩
  · exact ⟨_, lw_sw30, lw_30 N xs i g⟩
  · exact ⟨_, lw_sw31, lw_31 N xs i g⟩
  · exact ⟨_, lw_sw32, lw_32 N xs i g⟩
  · exact ⟨_, lw_sw33, lw_33 N xs i g⟩
  · exact ⟨_, lw_sw34, lw_34 N xs i g⟩
  · exact ⟨_, lw_sw35, lw_35 N xs i g⟩
  · exact ⟨_, lw_sw36, lw_36 N xs i g⟩
  · exact ⟨_, lw_sw37, lw_37 N xs i g⟩
  · exact ⟨_, lw_sw38, lw_38 N xs i g⟩
  · exact ⟨_, lw_sw39, lw_39 N xs i g⟩
  · exact ⟨_, lw_sw40, lw_end N xs i⟩
  · exact ⟨_, lw_sw41, lw_end N xs i⟩
  · exact ⟨_, lw_sw42, lw_end N xs i⟩
  · exact ⟨_, lw_sw43, lw_end N xs i⟩
  · exact ⟨_, lw_sw44, lw_end N xs i⟩
  · exact ⟨_, lw_sw45, lw_end N xs i⟩
  · exact ⟨_, lw_sw46, lw_end N xs i⟩
  · exact ⟨_, lw_sw47, lw_end N xs i⟩
  · exact ⟨_, lw_sw48, lw_end N xs i⟩
  · exact ⟨_, lw_sw49, lw_end N xs i⟩
  · exact ⟨_, lw_sw50, lw_end N xs i⟩
  · exact ⟨_, lw_sw51, lw_end N xs i⟩
  · exact ⟨_, lw_sw52, lw_end N xs i⟩
  · exact ⟨_, lw_sw53, lw_end N xs i⟩
  · exact ⟨_, lw_sw54, lw_end N xs i⟩
  · exact ⟨_, lw_sw55, lw_end N xs i⟩
  · exact ⟨_, lw_sw56, lw_end N xs i⟩
  · exact ⟨_, lw_sw57, lw_end N xs i⟩
  · exact ⟨_, lw_sw58, lw_end N xs i⟩
  · exact ⟨_, lw_sw59, lw_end N xs i⟩
  · exact ⟨_, lw_sw60, lw_end N xs i⟩
  · exact ⟨_, lw_sw61, lw_end N xs i⟩
  · exact ⟨_, lw_sw62, lw_end N xs i⟩
  · exact ⟨_, lw_sw63, lw_end N xs i⟩
theorem lw_and (x : Int32) : ∃ c, c < 64 ∧ x &&& (Int8.ofInt 63).toInt32 = Int32.ofNat c := by
  rw [show (Int8.ofInt 63).toInt32 = (63 : Int32) by decide]
  obtain ⟨j, hj, e⟩ := pk_andE x (m := 63) 6 (by decide)
  exact ⟨j, hj, e⟩
theorem lw_cmp {N k : Nat} (hN : N ≤ 3072) (hk : k ≤ 4000) : decide (Int32.ofNat N - (Int8.ofInt 6).toInt32 < Int32.ofNat k) = decide (N < k + 6) := by
  rw [show (Int8.ofInt 6).toInt32 = Int32.ofInt 6 by decide]
  have e1 : Int32.ofNat N - Int32.ofInt 6 = Int32.ofInt ((N : Int) - 6) := by rw [Int32.ofInt_sub, Int32.ofInt_eq_ofNat]
  rw [e1]
  apply decide_eq_decide.mpr
  rw [Int32.lt_iff_toInt_lt, Int32.toInt_ofInt_of_le (by omega) (by omega), Int32.toInt_ofNat_of_lt (by omega)]
  omega
theorem lw_add (k : Nat) : Int32.ofNat k + Int32.ofInt 1 = Int32.ofNat (k + 1) ∧ Int32.ofNat k + Int32.ofInt 2 = Int32.ofNat (k + 2) ∧ Int32.ofNat k + Int32.ofInt 3 = Int32.ofNat (k + 3) ∧ Int32.ofNat k + Int32.ofInt 4 = Int32.ofNat (k + 4) ∧ Int32.ofNat k + Int32.ofInt 5 = Int32.ofNat (k + 5) ∧ Int32.ofNat k + Int32.ofInt 6 = Int32.ofNat (k + 6) := by
  refine ⟨?_, ?_, ?_, ?_, ?_, ?_⟩
  · rw [show Int32.ofInt 1 = Int32.ofNat 1 by decide, ← Int32.ofNat_add]
  · rw [show Int32.ofInt 2 = Int32.ofNat 2 by decide, ← Int32.ofNat_add]
  · rw [show Int32.ofInt 3 = Int32.ofNat 3 by decide, ← Int32.ofNat_add]
  · rw [show Int32.ofInt 4 = Int32.ofNat 4 by decide, ← Int32.ofNat_add]
  · rw [show Int32.ofInt 5 = Int32.ofNat 5 by decide, ← Int32.ofNat_add]
  · rw [show Int32.ofInt 6 = Int32.ofNat 6 by decide, ← Int32.ofNat_add]
theorem lw_gI {N k : Nat} (hN : N ≤ 3072) (h : k + 6 ≤ N) : gI (Int32.ofNat k) N := by
  obtain ⟨a1, a2, a3, a4, a5, -⟩ := lw_add k
  unfold gI
  rw [a1, a2, a3, a4, a5]
  exact ⟨zI_in _ _ (by omega) (by omega), zI_in _ _ (by omega) (by omega), zI_in _ _ (by omega) (by omega), zI_in _ _ (by omega) (by omega), zI_in _ _ (by omega) (by omega)⟩
set_option maxRecDepth 20000 in
theorem lw_exit (N : Nat) (xs : Nat → Int32) (i : Int32) (x5 x6 : Option Value) (I : Nat → Nat → Int32) (J : Nat → Nat → Int64) (E : Nat → Nat → Nat) (hb : decide (Int32.ofNat N - (Int8.ofInt 6).toInt32 < i) = true) : LR (false, N, xs) (100, 304, 23, [some (.ref 60000), some (.ref 0), some (.ref 156), some (.ref 178), some (.int i), x5, x6], [], am_hp I J E) (100, 304, 1345, [some (.ref 60000), some (.ref 0), some (.ref 156), some (.ref 178), some (.int i), x5, x6], [.int 1], am_hp I J E) 10 := by
  refine lr_s (t := (100, 304, 25, [some (.ref 60000), some (.ref 0), some (.ref 156), some (.ref 178), some (.int i), x5, x6], [.int i], am_hp I J E)) rfl ?_
  refine lr_s (t := (100, 304, 26, [some (.ref 60000), some (.ref 0), some (.ref 156), some (.ref 178), some (.int i), x5, x6], [.ref 60000, .int i], am_hp I J E)) rfl ?_
  refine lr_s (t := (100, 304, 27, [some (.ref 60000), some (.ref 0), some (.ref 156), some (.ref 178), some (.int i), x5, x6], [.int (Int32.ofNat N), .int i], am_hp I J E)) rfl ?_
  refine lr_s (t := (100, 304, 29, [some (.ref 60000), some (.ref 0), some (.ref 156), some (.ref 178), some (.int i), x5, x6], [.int (Int8.ofInt 6).toInt32, .int (Int32.ofNat N), .int i], am_hp I J E)) rfl ?_
  refine lr_s (t := (100, 304, 30, [some (.ref 60000), some (.ref 0), some (.ref 156), some (.ref 178), some (.int i), x5, x6], [.int (Int32.ofNat N - (Int8.ofInt 6).toInt32), .int i], am_hp I J E)) rfl ?_
  refine lr_b (t := (100, 304, 1344, [some (.ref 60000), some (.ref 0), some (.ref 156), some (.ref 178), some (.int i), x5, x6], [], am_hp I J E)) (t' := (100, 304, 33, [some (.ref 60000), some (.ref 0), some (.ref 156), some (.ref 178), some (.int i), x5, x6], [], am_hp I J E)) hb rfl ?_
  exact lr_s rfl lr_e
set_option maxRecDepth 20000 in
theorem lw_enter (N : Nat) (xs : Nat → Int32) (i : Int32) (x5 x6 : Option Value) (I : Nat → Nat → Int32) (J : Nat → Nat → Int64) (E : Nat → Nat → Nat) (hb : decide (Int32.ofNat N - (Int8.ofInt 6).toInt32 < i) = false) (hi : am_in i N = true) : LR (false, N, xs) (100, 304, 23, [some (.ref 60000), some (.ref 0), some (.ref 156), some (.ref 178), some (.int i), x5, x6], [], am_hp I J E) (100, 304, 40, [some (.ref 60000), some (.ref 0), some (.ref 156), some (.ref 178), some (.int i), x5, x6], [.int (xs i.toNatClampNeg &&& (Int8.ofInt 63).toInt32)], am_hp I J E) 20 := by
  refine lr_s (t := (100, 304, 25, [some (.ref 60000), some (.ref 0), some (.ref 156), some (.ref 178), some (.int i), x5, x6], [.int i], am_hp I J E)) rfl ?_
  refine lr_s (t := (100, 304, 26, [some (.ref 60000), some (.ref 0), some (.ref 156), some (.ref 178), some (.int i), x5, x6], [.ref 60000, .int i], am_hp I J E)) rfl ?_
  refine lr_s (t := (100, 304, 27, [some (.ref 60000), some (.ref 0), some (.ref 156), some (.ref 178), some (.int i), x5, x6], [.int (Int32.ofNat N), .int i], am_hp I J E)) rfl ?_
  refine lr_s (t := (100, 304, 29, [some (.ref 60000), some (.ref 0), some (.ref 156), some (.ref 178), some (.int i), x5, x6], [.int (Int8.ofInt 6).toInt32, .int (Int32.ofNat N), .int i], am_hp I J E)) rfl ?_
  refine lr_s (t := (100, 304, 30, [some (.ref 60000), some (.ref 0), some (.ref 156), some (.ref 178), some (.int i), x5, x6], [.int (Int32.ofNat N - (Int8.ofInt 6).toInt32), .int i], am_hp I J E)) rfl ?_
  refine lr_n (t := (100, 304, 33, [some (.ref 60000), some (.ref 0), some (.ref 156), some (.ref 178), some (.int i), x5, x6], [], am_hp I J E)) (t' := (100, 304, 1344, [some (.ref 60000), some (.ref 0), some (.ref 156), some (.ref 178), some (.int i), x5, x6], [], am_hp I J E)) hb rfl ?_
  refine lr_s (t := (100, 304, 34, [some (.ref 60000), some (.ref 0), some (.ref 156), some (.ref 178), some (.int i), x5, x6], [.ref 60000], am_hp I J E)) rfl ?_
  refine lr_s (t := (100, 304, 36, [some (.ref 60000), some (.ref 0), some (.ref 156), some (.ref 178), some (.int i), x5, x6], [.int i, .ref 60000], am_hp I J E)) rfl ?_
  refine lr_g (t := (100, 304, 37, [some (.ref 60000), some (.ref 0), some (.ref 156), some (.ref 178), some (.int i), x5, x6], [.int (xs i.toNatClampNeg)], am_hp I J E)) (lr_in hi) rfl ?_
  refine lr_s (t := (100, 304, 39, [some (.ref 60000), some (.ref 0), some (.ref 156), some (.ref 178), some (.int i), x5, x6], [.int (Int8.ofInt 63).toInt32, .int (xs i.toNatClampNeg)], am_hp I J E)) rfl ?_
  exact lr_s rfl lr_e
set_option maxRecDepth 20000 in
theorem lw_next (N : Nat) (xs : Nat → Int32) (i : Int32) (x5 x6 : Option Value) (I : Nat → Nat → Int32) (J : Nat → Nat → Int64) (E : Nat → Nat → Nat) : LR (false, N, xs) (100, 304, 1338, [some (.ref 60000), some (.ref 0), some (.ref 156), some (.ref 178), some (.int i), x5, x6], [], am_hp I J E) (100, 304, 23, [some (.ref 60000), some (.ref 0), some (.ref 156), some (.ref 178), some (.int (i + Int32.ofInt 6)), x5, x6], [], am_hp I J E) 2 := by
  refine lr_s (t := (100, 304, 1341, [some (.ref 60000), some (.ref 0), some (.ref 156), some (.ref 178), some (.int (i + Int32.ofInt 6)), x5, x6], [], am_hp I J E)) rfl ?_
  exact lr_g (show decide ((0 : Int) ≤ (1341 : Nat) + -1318) = true by decide) rfl lr_e
theorem lw_loop (N : Nat) (hN : N ≤ 3072) (xs : Nat → Int32) : ∀ (m k : Nat) (x5 x6 : Option Value) (I : Nat → Nat → Int32) (J : Nat → Nat → Int64) (E : Nat → Nat → Nat), k ≤ N + 6 → N < k + 6 * m → Rel I J E → ∃ (L2 : am_L) (h2 : am_H), h2.1 = 179 ∧ LR (false, N, xs) (100, 304, 23, [some (.ref 60000), some (.ref 0), some (.ref 156), some (.ref 178), some (.int (Int32.ofNat k)), x5, x6], [], am_hp I J E) (100, 304, 1345, L2, [.int 1], h2) (430 * m + 10) := by
  intro m
  induction m with
  | zero =>
    intro k x5 x6 I J E hk hm hrel
    exact ⟨_, am_hp I J E, rfl, lr_w (lw_exit N xs (Int32.ofNat k) x5 x6 I J E (by rw [lw_cmp hN (by omega)]; exact decide_eq_true (by omega))) (by omega)⟩
  | succ m ih =>
    intro k x5 x6 I J E hk hm hrel
    by_cases h6 : N < k + 6
    · exact ⟨_, am_hp I J E, rfl, lr_w (lw_exit N xs (Int32.ofNat k) x5 x6 I J E (by rw [lw_cmp hN (by omega)]; exact decide_eq_true h6)) (by omega)⟩
    · obtain ⟨c, hc, ec⟩ := lw_and (xs (Int32.ofNat k).toNatClampNeg)
      obtain ⟨pc, hs, hw⟩ := lw_act N xs (Int32.ofNat k) (lw_gI hN (by omega)) c hc
      obtain ⟨y5, y6, I2, J2, E2, hr2, l2⟩ := hw x5 x6 I J E hrel
      obtain ⟨L3, h3, q3, l3⟩ := ih (k + 6) y5 y6 I2 J2 E2 (by omega) (by omega) hr2
      have l1 := lw_enter N xs (Int32.ofNat k) x5 x6 I J E (by rw [lw_cmp hN (by omega)]; exact decide_eq_false h6) (zI_in _ _ (by omega) (by omega))
      rw [ec] at l1
      have l1b := lr_t l1 (lr_s ((lw_sel (false, N, xs) _ (am_hp I J E) (Int32.ofNat c)).trans (hs _ _)) l2)
      have l4 := lw_next N xs (Int32.ofNat k) y5 y6 I2 J2 E2
      rw [(lw_add k).2.2.2.2.2] at l4
      exact ⟨L3, h3, q3, lr_w (lr_t (lr_t l1b l4) l3) (by omega)⟩
theorem am_pure2 (HC : ∀ a, a < 304 → am_chk a = true) : am_Pure2 := by
  intro N xs hN
  obtain ⟨h1, I, J, E, e1, e2, hrel⟩ := ini_all HC N xs
  obtain ⟨L2, h2, q1, n, hn, q2⟩ := lw_loop N hN xs 513 0 none none I J E (by omega) (by omega) hrel
  exact ⟨13, n, 23, _, L2, [], h1, am_hp I J E, h2, e1, e2, q2, q1, by omega⟩
