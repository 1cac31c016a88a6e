/-! the law's own rows, in pieces -/
theorem ck_join {mid : Nat} : ∀ (T : List (List (Option am_I))) (q0 : Nat), (∀ q, q < T.length → (Nat.ble (T.getD q []).length 16 && am_chkR mid (16 * (q0 + q)) (T.getD q [])) = true) → am_chkT mid q0 T = true := by
  intro T
  induction T with
  | nil => intro q0 _; rfl
  | cons r t ih =>
    intro q0 h
    have h0 := h 0 (Nat.zero_lt_succ _)
    have h0 : (Nat.ble r.length 16 && am_chkR mid (16 * q0) r) = true := h0
    have h1 := ih (q0 + 1) (fun q hq => by
      have := h (q + 1) (Nat.succ_lt_succ hq)
      rw [show q0 + 1 + q = q0 + (q + 1) by omega]
      exact this)
    show (Nat.ble r.length 16 && am_chkR mid (16 * q0) r && am_chkT mid (q0 + 1) t) = true
    rw [h0, h1]
    rfl
def ck_row (q : Nat) : Bool := Nat.ble ((am_tab 304).getD q []).length 16 && am_chkR 304 (16 * (0 + q)) ((am_tab 304).getD q [])
theorem ck_len304 : (am_tab 304).length = 85 := by decide +kernel
theorem ck_r0 : ck_row 0 = true := by decide +kernel
theorem ck_r1 : ck_row 1 = true := by decide +kernel
theorem ck_r2 : ck_row 2 = true := by decide +kernel
theorem ck_r3 : ck_row 3 = true := by decide +kernel
theorem ck_r4 : ck_row 4 = true := by decide +kernel
theorem ck_r5 : ck_row 5 = true := by decide +kernel
theorem ck_r6 : ck_row 6 = true := by decide +kernel
theorem ck_r7 : ck_row 7 = true := by decide +kernel
theorem ck_r8 : ck_row 8 = true := by decide +kernel
theorem ck_r9 : ck_row 9 = true := by decide +kernel
theorem ck_r10 : ck_row 10 = true := by decide +kernel
theorem ck_r11 : ck_row 11 = true := by decide +kernel
theorem ck_r12 : ck_row 12 = true := by decide +kernel
theorem ck_r13 : ck_row 13 = true := by decide +kernel
theorem ck_r14 : ck_row 14 = true := by decide +kernel
theorem ck_r15 : ck_row 15 = true := by decide +kernel
theorem ck_r16 : ck_row 16 = true := by decide +kernel
theorem ck_r17 : ck_row 17 = true := by decide +kernel
theorem ck_r18 : ck_row 18 = true := by decide +kernel
theorem ck_r19 : ck_row 19 = true := by decide +kernel
theorem ck_r20 : ck_row 20 = true := by decide +kernel
theorem ck_r21 : ck_row 21 = true := by decide +kernel
theorem ck_r22 : ck_row 22 = true := by decide +kernel
theorem ck_r23 : ck_row 23 = true := by decide +kernel
theorem ck_r24 : ck_row 24 = true := by decide +kernel
theorem ck_r25 : ck_row 25 = true := by decide +kernel
theorem ck_r26 : ck_row 26 = true := by decide +kernel
theorem ck_r27 : ck_row 27 = true := by decide +kernel
theorem ck_r28 : ck_row 28 = true := by decide +kernel
theorem ck_r29 : ck_row 29 = true := by decide +kernel
theorem ck_r30 : ck_row 30 = true := by decide +kernel
theorem ck_r31 : ck_row 31 = true := by decide +kernel
theorem ck_r32 : ck_row 32 = true := by decide +kernel
theorem ck_r33 : ck_row 33 = true := by decide +kernel
theorem ck_r34 : ck_row 34 = true := by decide +kernel
theorem ck_r35 : ck_row 35 = true := by decide +kernel
theorem ck_r36 : ck_row 36 = true := by decide +kernel
theorem ck_r37 : ck_row 37 = true := by decide +kernel
theorem ck_r38 : ck_row 38 = true := by decide +kernel
theorem ck_r39 : ck_row 39 = true := by decide +kernel
theorem ck_r40 : ck_row 40 = true := by decide +kernel
theorem ck_r41 : ck_row 41 = true := by decide +kernel
theorem ck_r42 : ck_row 42 = true := by decide +kernel
theorem ck_r43 : ck_row 43 = true := by decide +kernel
theorem ck_r44 : ck_row 44 = true := by decide +kernel
theorem ck_r45 : ck_row 45 = true := by decide +kernel
theorem ck_r46 : ck_row 46 = true := by decide +kernel
theorem ck_r47 : ck_row 47 = true := by decide +kernel
theorem ck_r48 : ck_row 48 = true := by decide +kernel
theorem ck_r49 : ck_row 49 = true := by decide +kernel
theorem ck_r50 : ck_row 50 = true := by decide +kernel
theorem ck_r51 : ck_row 51 = true := by decide +kernel
theorem ck_r52 : ck_row 52 = true := by decide +kernel
theorem ck_r53 : ck_row 53 = true := by decide +kernel
theorem ck_r54 : ck_row 54 = true := by decide +kernel
theorem ck_r55 : ck_row 55 = true := by decide +kernel
theorem ck_r56 : ck_row 56 = true := by decide +kernel
theorem ck_r57 : ck_row 57 = true := by decide +kernel
theorem ck_r58 : ck_row 58 = true := by decide +kernel
theorem ck_r59 : ck_row 59 = true := by decide +kernel
theorem ck_r60 : ck_row 60 = true := by decide +kernel
theorem ck_r61 : ck_row 61 = true := by decide +kernel
theorem ck_r62 : ck_row 62 = true := by decide +kernel
theorem ck_r63 : ck_row 63 = true := by decide +kernel
theorem ck_r64 : ck_row 64 = true := by decide +kernel
theorem ck_r65 : ck_row 65 = true := by decide +kernel
theorem ck_r66 : ck_row 66 = true := by decide +kernel
theorem ck_r67 : ck_row 67 = true := by decide +kernel
theorem ck_r68 : ck_row 68 = true := by decide +kernel
theorem ck_r69 : ck_row 69 = true := by decide +kernel
theorem ck_r70 : ck_row 70 = true := by decide +kernel
theorem ck_r71 : ck_row 71 = true := by decide +kernel
theorem ck_r72 : ck_row 72 = true := by decide +kernel
theorem ck_r73 : ck_row 73 = true := by decide +kernel
theorem ck_r74 : ck_row 74 = true := by decide +kernel
theorem ck_r75 : ck_row 75 = true := by decide +kernel
theorem ck_r76 : ck_row 76 = true := by decide +kernel
theorem ck_r77 : ck_row 77 = true := by decide +kernel
theorem ck_r78 : ck_row 78 = true := by decide +kernel
theorem ck_r79 : ck_row 79 = true := by decide +kernel
theorem ck_r80 : ck_row 80 = true := by decide +kernel
theorem ck_r81 : ck_row 81 = true := by decide +kernel
theorem ck_r82 : ck_row 82 = true := by decide +kernel
theorem ck_r83 : ck_row 83 = true := by decide +kernel
theorem ck_r84 : ck_row 84 = true := by decide +kernel
theorem ck_304 : am_chkT 304 0 (am_tab 304) = true := by
  refine ck_join _ 0 (fun q hq => ?_)
  rw [ck_len304] at hq
  show ck_row q = true
  rcases Nat.lt_or_ge q 42 with h42 | h42
  · rcases Nat.lt_or_ge q 21 with h21 | h21
    · rcases Nat.lt_or_ge q 10 with h10 | h10
      · rcases Nat.lt_or_ge q 5 with h5 | h5
        · rcases Nat.lt_or_ge q 2 with h2 | h2
          · rcases Nat.lt_or_ge q 1 with h1 | h1
            · have e : q = 0 := by omega
              rw [e]; exact ck_r0
            · have e : q = 1 := by omega
              rw [e]; exact ck_r1
          · rcases Nat.lt_or_ge q 3 with h3 | h3
            · have e : q = 2 := by omega
              rw [e]; exact ck_r2
            · rcases Nat.lt_or_ge q 4 with h4 | h4
              · have e : q = 3 := by omega
                rw [e]; exact ck_r3
              · have e : q = 4 := by omega
                rw [e]; exact ck_r4
        · rcases Nat.lt_or_ge q 7 with h7 | h7
          · rcases Nat.lt_or_ge q 6 with h6 | h6
            · have e : q = 5 := by omega
              rw [e]; exact ck_r5
            · have e : q = 6 := by omega
              rw [e]; exact ck_r6
          · rcases Nat.lt_or_ge q 8 with h8 | h8
            · have e : q = 7 := by omega
              rw [e]; exact ck_r7
            · rcases Nat.lt_or_ge q 9 with h9 | h9
              · have e : q = 8 := by omega
                rw [e]; exact ck_r8
              · have e : q = 9 := by omega
                rw [e]; exact ck_r9
      · rcases Nat.lt_or_ge q 15 with h15 | h15
        · rcases Nat.lt_or_ge q 12 with h12 | h12
          · rcases Nat.lt_or_ge q 11 with h11 | h11
            · have e : q = 10 := by omega
              rw [e]; exact ck_r10
            · have e : q = 11 := by omega
              rw [e]; exact ck_r11
          · rcases Nat.lt_or_ge q 13 with h13 | h13
            · have e : q = 12 := by omega
              rw [e]; exact ck_r12
            · rcases Nat.lt_or_ge q 14 with h14 | h14
              · have e : q = 13 := by omega
                rw [e]; exact ck_r13
              · have e : q = 14 := by omega
                rw [e]; exact ck_r14
        · rcases Nat.lt_or_ge q 18 with h18 | h18
          · rcases Nat.lt_or_ge q 16 with h16 | h16
            · have e : q = 15 := by omega
              rw [e]; exact ck_r15
            · rcases Nat.lt_or_ge q 17 with h17 | h17
              · have e : q = 16 := by omega
                rw [e]; exact ck_r16
              · have e : q = 17 := by omega
                rw [e]; exact ck_r17
          · rcases Nat.lt_or_ge q 19 with h19 | h19
            · have e : q = 18 := by omega
              rw [e]; exact ck_r18
            · rcases Nat.lt_or_ge q 20 with h20 | h20
              · have e : q = 19 := by omega
                rw [e]; exact ck_r19
              · have e : q = 20 := by omega
                rw [e]; exact ck_r20
    · rcases Nat.lt_or_ge q 31 with h31 | h31
      · rcases Nat.lt_or_ge q 26 with h26 | h26
        · rcases Nat.lt_or_ge q 23 with h23 | h23
          · rcases Nat.lt_or_ge q 22 with h22 | h22
            · have e : q = 21 := by omega
              rw [e]; exact ck_r21
            · have e : q = 22 := by omega
              rw [e]; exact ck_r22
          · rcases Nat.lt_or_ge q 24 with h24 | h24
            · have e : q = 23 := by omega
              rw [e]; exact ck_r23
            · rcases Nat.lt_or_ge q 25 with h25 | h25
              · have e : q = 24 := by omega
                rw [e]; exact ck_r24
              · have e : q = 25 := by omega
                rw [e]; exact ck_r25
        · rcases Nat.lt_or_ge q 28 with h28 | h28
          · rcases Nat.lt_or_ge q 27 with h27 | h27
            · have e : q = 26 := by omega
              rw [e]; exact ck_r26
            · have e : q = 27 := by omega
              rw [e]; exact ck_r27
          · rcases Nat.lt_or_ge q 29 with h29 | h29
            · have e : q = 28 := by omega
              rw [e]; exact ck_r28
            · rcases Nat.lt_or_ge q 30 with h30 | h30
              · have e : q = 29 := by omega
                rw [e]; exact ck_r29
              · have e : q = 30 := by omega
                rw [e]; exact ck_r30
      · rcases Nat.lt_or_ge q 36 with h36 | h36
        · rcases Nat.lt_or_ge q 33 with h33 | h33
          · rcases Nat.lt_or_ge q 32 with h32 | h32
            · have e : q = 31 := by omega
              rw [e]; exact ck_r31
            · have e : q = 32 := by omega
              rw [e]; exact ck_r32
          · rcases Nat.lt_or_ge q 34 with h34 | h34
            · have e : q = 33 := by omega
              rw [e]; exact ck_r33
            · rcases Nat.lt_or_ge q 35 with h35 | h35
              · have e : q = 34 := by omega
                rw [e]; exact ck_r34
              · have e : q = 35 := by omega
                rw [e]; exact ck_r35
        · rcases Nat.lt_or_ge q 39 with h39 | h39
          · rcases Nat.lt_or_ge q 37 with h37 | h37
            · have e : q = 36 := by omega
              rw [e]; exact ck_r36
            · rcases Nat.lt_or_ge q 38 with h38 | h38
              · have e : q = 37 := by omega
                rw [e]; exact ck_r37
              · have e : q = 38 := by omega
                rw [e]; exact ck_r38
          · rcases Nat.lt_or_ge q 40 with h40 | h40
            · have e : q = 39 := by omega
              rw [e]; exact ck_r39
            · rcases Nat.lt_or_ge q 41 with h41 | h41
              · have e : q = 40 := by omega
                rw [e]; exact ck_r40
              · have e : q = 41 := by omega
                rw [e]; exact ck_r41
  · rcases Nat.lt_or_ge q 63 with h63 | h63
    · rcases Nat.lt_or_ge q 52 with h52 | h52
      · rcases Nat.lt_or_ge q 47 with h47 | h47
        · rcases Nat.lt_or_ge q 44 with h44 | h44
          · rcases Nat.lt_or_ge q 43 with h43 | h43
            · have e : q = 42 := by omega
              rw [e]; exact ck_r42
            · have e : q = 43 := by omega
              rw [e]; exact ck_r43
          · rcases Nat.lt_or_ge q 45 with h45 | h45
            · have e : q = 44 := by omega
              rw [e]; exact ck_r44
            · rcases Nat.lt_or_ge q 46 with h46 | h46
              · have e : q = 45 := by omega
                rw [e]; exact ck_r45
              · have e : q = 46 := by omega
                rw [e]; exact ck_r46
        · rcases Nat.lt_or_ge q 49 with h49 | h49
          · rcases Nat.lt_or_ge q 48 with h48 | h48
            · have e : q = 47 := by omega
              rw [e]; exact ck_r47
            · have e : q = 48 := by omega
              rw [e]; exact ck_r48
          · rcases Nat.lt_or_ge q 50 with h50 | h50
            · have e : q = 49 := by omega
              rw [e]; exact ck_r49
            · rcases Nat.lt_or_ge q 51 with h51 | h51
              · have e : q = 50 := by omega
                rw [e]; exact ck_r50
              · have e : q = 51 := by omega
                rw [e]; exact ck_r51
      · rcases Nat.lt_or_ge q 57 with h57 | h57
        · rcases Nat.lt_or_ge q 54 with h54 | h54
          · rcases Nat.lt_or_ge q 53 with h53 | h53
            · have e : q = 52 := by omega
              rw [e]; exact ck_r52
            · have e : q = 53 := by omega
              rw [e]; exact ck_r53
          · rcases Nat.lt_or_ge q 55 with h55 | h55
            · have e : q = 54 := by omega
              rw [e]; exact ck_r54
            · rcases Nat.lt_or_ge q 56 with h56 | h56
              · have e : q = 55 := by omega
                rw [e]; exact ck_r55
              · have e : q = 56 := by omega
                rw [e]; exact ck_r56
        · rcases Nat.lt_or_ge q 60 with h60 | h60
          · rcases Nat.lt_or_ge q 58 with h58 | h58
            · have e : q = 57 := by omega
              rw [e]; exact ck_r57
            · rcases Nat.lt_or_ge q 59 with h59 | h59
              · have e : q = 58 := by omega
                rw [e]; exact ck_r58
              · have e : q = 59 := by omega
                rw [e]; exact ck_r59
          · rcases Nat.lt_or_ge q 61 with h61 | h61
            · have e : q = 60 := by omega
              rw [e]; exact ck_r60
            · rcases Nat.lt_or_ge q 62 with h62 | h62
              · have e : q = 61 := by omega
                rw [e]; exact ck_r61
              · have e : q = 62 := by omega
                rw [e]; exact ck_r62
    · rcases Nat.lt_or_ge q 74 with h74 | h74
      · rcases Nat.lt_or_ge q 68 with h68 | h68
        · rcases Nat.lt_or_ge q 65 with h65 | h65
          · rcases Nat.lt_or_ge q 64 with h64 | h64
            · have e : q = 63 := by omega
              rw [e]; exact ck_r63
            · have e : q = 64 := by omega
              rw [e]; exact ck_r64
          · rcases Nat.lt_or_ge q 66 with h66 | h66
            · have e : q = 65 := by omega
              rw [e]; exact ck_r65
            · rcases Nat.lt_or_ge q 67 with h67 | h67
              · have e : q = 66 := by omega
                rw [e]; exact ck_r66
              · have e : q = 67 := by omega
                rw [e]; exact ck_r67
        · rcases Nat.lt_or_ge q 71 with h71 | h71
          · rcases Nat.lt_or_ge q 69 with h69 | h69
            · have e : q = 68 := by omega
              rw [e]; exact ck_r68
            · rcases Nat.lt_or_ge q 70 with h70 | h70
              · have e : q = 69 := by omega
                rw [e]; exact ck_r69
              · have e : q = 70 := by omega
                rw [e]; exact ck_r70
          · rcases Nat.lt_or_ge q 72 with h72 | h72
            · have e : q = 71 := by omega
              rw [e]; exact ck_r71
            · rcases Nat.lt_or_ge q 73 with h73 | h73
              · have e : q = 72 := by omega
                rw [e]; exact ck_r72
              · have e : q = 73 := by omega
                rw [e]; exact ck_r73
      · rcases Nat.lt_or_ge q 79 with h79 | h79
        · rcases Nat.lt_or_ge q 76 with h76 | h76
          · rcases Nat.lt_or_ge q 75 with h75 | h75
            · have e : q = 74 := by omega
              rw [e]; exact ck_r74
            · have e : q = 75 := by omega
              rw [e]; exact ck_r75
          · rcases Nat.lt_or_ge q 77 with h77 | h77
            · have e : q = 76 := by omega
              rw [e]; exact ck_r76
            · rcases Nat.lt_or_ge q 78 with h78 | h78
              · have e : q = 77 := by omega
                rw [e]; exact ck_r77
              · have e : q = 78 := by omega
                rw [e]; exact ck_r78
        · rcases Nat.lt_or_ge q 82 with h82 | h82
          · rcases Nat.lt_or_ge q 80 with h80 | h80
            · have e : q = 79 := by omega
              rw [e]; exact ck_r79
            · rcases Nat.lt_or_ge q 81 with h81 | h81
              · have e : q = 80 := by omega
                rw [e]; exact ck_r80
              · have e : q = 81 := by omega
                rw [e]; exact ck_r81
          · rcases Nat.lt_or_ge q 83 with h83 | h83
            · have e : q = 82 := by omega
              rw [e]; exact ck_r82
            · rcases Nat.lt_or_ge q 84 with h84 | h84
              · have e : q = 83 := by omega
                rw [e]; exact ck_r83
              · have e : q = 84 := by omega
                rw [e]; exact ck_r84
