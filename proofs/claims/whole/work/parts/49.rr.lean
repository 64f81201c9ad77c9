/-! ===== L3: the references that change, one by one ===== -/
set_option maxRecDepth 100000 in
theorem am_RRc0 {rt rs rd rl rx nt nw nf v m k : Nat} (hm : m ≠ 1) (h : m < 141) : am_RR (rt, rs, rd, rl, rx, nt, nw, nf) m k = am_RR (v, rs, rd, rl, rx, nt, nw, nf) m k := by
  rcases Nat.lt_or_ge m 70 with g70 | g70
  · rcases Nat.lt_or_ge m 35 with g35 | g35
    · rcases Nat.lt_or_ge m 17 with g17 | g17
      · rcases Nat.lt_or_ge m 8 with g8 | g8
        · rcases Nat.lt_or_ge m 4 with g4 | g4
          · rcases Nat.lt_or_ge m 2 with g2 | g2
            · rcases Nat.lt_or_ge m 1 with g1 | g1
              · obtain rfl : m = 0 := by omega
                rfl
              · exact absurd (show m = 1 by omega) hm
            · rcases Nat.lt_or_ge m 3 with g3 | g3
              · obtain rfl : m = 2 := by omega
                rfl
              · obtain rfl : m = 3 := by omega
                rfl
          · rcases Nat.lt_or_ge m 6 with g6 | g6
            · rcases Nat.lt_or_ge m 5 with g5 | g5
              · obtain rfl : m = 4 := by omega
                rfl
              · obtain rfl : m = 5 := by omega
                rfl
            · rcases Nat.lt_or_ge m 7 with g7 | g7
              · obtain rfl : m = 6 := by omega
                rfl
              · obtain rfl : m = 7 := by omega
                rfl
        · rcases Nat.lt_or_ge m 12 with g12 | g12
          · rcases Nat.lt_or_ge m 10 with g10 | g10
            · rcases Nat.lt_or_ge m 9 with g9 | g9
              · obtain rfl : m = 8 := by omega
                rfl
              · obtain rfl : m = 9 := by omega
                rfl
            · rcases Nat.lt_or_ge m 11 with g11 | g11
              · obtain rfl : m = 10 := by omega
                rfl
              · obtain rfl : m = 11 := by omega
                rfl
          · rcases Nat.lt_or_ge m 14 with g14 | g14
            · rcases Nat.lt_or_ge m 13 with g13 | g13
              · obtain rfl : m = 12 := by omega
                rfl
              · obtain rfl : m = 13 := by omega
                rfl
            · rcases Nat.lt_or_ge m 15 with g15 | g15
              · obtain rfl : m = 14 := by omega
                rfl
              · rcases Nat.lt_or_ge m 16 with g16 | g16
                · obtain rfl : m = 15 := by omega
                  rfl
                · obtain rfl : m = 16 := by omega
                  rfl
      · rcases Nat.lt_or_ge m 26 with g26 | g26
        · rcases Nat.lt_or_ge m 21 with g21 | g21
          · rcases Nat.lt_or_ge m 19 with g19 | g19
            · rcases Nat.lt_or_ge m 18 with g18 | g18
              · obtain rfl : m = 17 := by omega
                rfl
              · obtain rfl : m = 18 := by omega
                rfl
            · rcases Nat.lt_or_ge m 20 with g20 | g20
              · obtain rfl : m = 19 := by omega
                rfl
              · obtain rfl : m = 20 := by omega
                rfl
          · rcases Nat.lt_or_ge m 23 with g23 | g23
            · rcases Nat.lt_or_ge m 22 with g22 | g22
              · obtain rfl : m = 21 := by omega
                rfl
              · obtain rfl : m = 22 := by omega
                rfl
            · rcases Nat.lt_or_ge m 24 with g24 | g24
              · obtain rfl : m = 23 := by omega
                rfl
              · rcases Nat.lt_or_ge m 25 with g25 | g25
                · obtain rfl : m = 24 := by omega
                  rfl
                · obtain rfl : m = 25 := by omega
                  rfl
        · rcases Nat.lt_or_ge m 30 with g30 | g30
          · rcases Nat.lt_or_ge m 28 with g28 | g28
            · rcases Nat.lt_or_ge m 27 with g27 | g27
              · obtain rfl : m = 26 := by omega
                rfl
              · obtain rfl : m = 27 := by omega
                rfl
            · rcases Nat.lt_or_ge m 29 with g29 | g29
              · obtain rfl : m = 28 := by omega
                rfl
              · obtain rfl : m = 29 := by omega
                rfl
          · rcases Nat.lt_or_ge m 32 with g32 | g32
            · rcases Nat.lt_or_ge m 31 with g31 | g31
              · obtain rfl : m = 30 := by omega
                rfl
              · obtain rfl : m = 31 := by omega
                rfl
            · rcases Nat.lt_or_ge m 33 with g33 | g33
              · obtain rfl : m = 32 := by omega
                rfl
              · rcases Nat.lt_or_ge m 34 with g34 | g34
                · obtain rfl : m = 33 := by omega
                  rfl
                · obtain rfl : m = 34 := by omega
                  rfl
    · rcases Nat.lt_or_ge m 52 with g52 | g52
      · rcases Nat.lt_or_ge m 43 with g43 | g43
        · rcases Nat.lt_or_ge m 39 with g39 | g39
          · rcases Nat.lt_or_ge m 37 with g37 | g37
            · rcases Nat.lt_or_ge m 36 with g36 | g36
              · obtain rfl : m = 35 := by omega
                rfl
              · obtain rfl : m = 36 := by omega
                rfl
            · rcases Nat.lt_or_ge m 38 with g38 | g38
              · obtain rfl : m = 37 := by omega
                rfl
              · obtain rfl : m = 38 := by omega
                rfl
          · rcases Nat.lt_or_ge m 41 with g41 | g41
            · rcases Nat.lt_or_ge m 40 with g40 | g40
              · obtain rfl : m = 39 := by omega
                rfl
              · obtain rfl : m = 40 := by omega
                rfl
            · rcases Nat.lt_or_ge m 42 with g42 | g42
              · obtain rfl : m = 41 := by omega
                rfl
              · obtain rfl : m = 42 := by omega
                rfl
        · rcases Nat.lt_or_ge m 47 with g47 | g47
          · rcases Nat.lt_or_ge m 45 with g45 | g45
            · rcases Nat.lt_or_ge m 44 with g44 | g44
              · obtain rfl : m = 43 := by omega
                rfl
              · obtain rfl : m = 44 := by omega
                rfl
            · rcases Nat.lt_or_ge m 46 with g46 | g46
              · obtain rfl : m = 45 := by omega
                rfl
              · obtain rfl : m = 46 := by omega
                rfl
          · rcases Nat.lt_or_ge m 49 with g49 | g49
            · rcases Nat.lt_or_ge m 48 with g48 | g48
              · obtain rfl : m = 47 := by omega
                rfl
              · obtain rfl : m = 48 := by omega
                rfl
            · rcases Nat.lt_or_ge m 50 with g50 | g50
              · obtain rfl : m = 49 := by omega
                rfl
              · rcases Nat.lt_or_ge m 51 with g51 | g51
                · obtain rfl : m = 50 := by omega
                  rfl
                · obtain rfl : m = 51 := by omega
                  rfl
      · rcases Nat.lt_or_ge m 61 with g61 | g61
        · rcases Nat.lt_or_ge m 56 with g56 | g56
          · rcases Nat.lt_or_ge m 54 with g54 | g54
            · rcases Nat.lt_or_ge m 53 with g53 | g53
              · obtain rfl : m = 52 := by omega
                rfl
              · obtain rfl : m = 53 := by omega
                rfl
            · rcases Nat.lt_or_ge m 55 with g55 | g55
              · obtain rfl : m = 54 := by omega
                rfl
              · obtain rfl : m = 55 := by omega
                rfl
          · rcases Nat.lt_or_ge m 58 with g58 | g58
            · rcases Nat.lt_or_ge m 57 with g57 | g57
              · obtain rfl : m = 56 := by omega
                rfl
              · obtain rfl : m = 57 := by omega
                rfl
            · rcases Nat.lt_or_ge m 59 with g59 | g59
              · obtain rfl : m = 58 := by omega
                rfl
              · rcases Nat.lt_or_ge m 60 with g60 | g60
                · obtain rfl : m = 59 := by omega
                  rfl
                · obtain rfl : m = 60 := by omega
                  rfl
        · rcases Nat.lt_or_ge m 65 with g65 | g65
          · rcases Nat.lt_or_ge m 63 with g63 | g63
            · rcases Nat.lt_or_ge m 62 with g62 | g62
              · obtain rfl : m = 61 := by omega
                rfl
              · obtain rfl : m = 62 := by omega
                rfl
            · rcases Nat.lt_or_ge m 64 with g64 | g64
              · obtain rfl : m = 63 := by omega
                rfl
              · obtain rfl : m = 64 := by omega
                rfl
          · rcases Nat.lt_or_ge m 67 with g67 | g67
            · rcases Nat.lt_or_ge m 66 with g66 | g66
              · obtain rfl : m = 65 := by omega
                rfl
              · obtain rfl : m = 66 := by omega
                rfl
            · rcases Nat.lt_or_ge m 68 with g68 | g68
              · obtain rfl : m = 67 := by omega
                rfl
              · rcases Nat.lt_or_ge m 69 with g69 | g69
                · obtain rfl : m = 68 := by omega
                  rfl
                · obtain rfl : m = 69 := by omega
                  rfl
  · rcases Nat.lt_or_ge m 105 with g105 | g105
    · rcases Nat.lt_or_ge m 87 with g87 | g87
      · rcases Nat.lt_or_ge m 78 with g78 | g78
        · rcases Nat.lt_or_ge m 74 with g74 | g74
          · rcases Nat.lt_or_ge m 72 with g72 | g72
            · rcases Nat.lt_or_ge m 71 with g71 | g71
              · obtain rfl : m = 70 := by omega
                rfl
              · obtain rfl : m = 71 := by omega
                rfl
            · rcases Nat.lt_or_ge m 73 with g73 | g73
              · obtain rfl : m = 72 := by omega
                rfl
              · obtain rfl : m = 73 := by omega
                rfl
          · rcases Nat.lt_or_ge m 76 with g76 | g76
            · rcases Nat.lt_or_ge m 75 with g75 | g75
              · obtain rfl : m = 74 := by omega
                rfl
              · obtain rfl : m = 75 := by omega
                rfl
            · rcases Nat.lt_or_ge m 77 with g77 | g77
              · obtain rfl : m = 76 := by omega
                rfl
              · obtain rfl : m = 77 := by omega
                rfl
        · rcases Nat.lt_or_ge m 82 with g82 | g82
          · rcases Nat.lt_or_ge m 80 with g80 | g80
            · rcases Nat.lt_or_ge m 79 with g79 | g79
              · obtain rfl : m = 78 := by omega
                rfl
              · obtain rfl : m = 79 := by omega
                rfl
            · rcases Nat.lt_or_ge m 81 with g81 | g81
              · obtain rfl : m = 80 := by omega
                rfl
              · obtain rfl : m = 81 := by omega
                rfl
          · rcases Nat.lt_or_ge m 84 with g84 | g84
            · rcases Nat.lt_or_ge m 83 with g83 | g83
              · obtain rfl : m = 82 := by omega
                rfl
              · obtain rfl : m = 83 := by omega
                rfl
            · rcases Nat.lt_or_ge m 85 with g85 | g85
              · obtain rfl : m = 84 := by omega
                rfl
              · rcases Nat.lt_or_ge m 86 with g86 | g86
                · obtain rfl : m = 85 := by omega
                  rfl
                · obtain rfl : m = 86 := by omega
                  rfl
      · rcases Nat.lt_or_ge m 96 with g96 | g96
        · rcases Nat.lt_or_ge m 91 with g91 | g91
          · rcases Nat.lt_or_ge m 89 with g89 | g89
            · rcases Nat.lt_or_ge m 88 with g88 | g88
              · obtain rfl : m = 87 := by omega
                rfl
              · obtain rfl : m = 88 := by omega
                rfl
            · rcases Nat.lt_or_ge m 90 with g90 | g90
              · obtain rfl : m = 89 := by omega
                rfl
              · obtain rfl : m = 90 := by omega
                rfl
          · rcases Nat.lt_or_ge m 93 with g93 | g93
            · rcases Nat.lt_or_ge m 92 with g92 | g92
              · obtain rfl : m = 91 := by omega
                rfl
              · obtain rfl : m = 92 := by omega
                rfl
            · rcases Nat.lt_or_ge m 94 with g94 | g94
              · obtain rfl : m = 93 := by omega
                rfl
              · rcases Nat.lt_or_ge m 95 with g95 | g95
                · obtain rfl : m = 94 := by omega
                  rfl
                · obtain rfl : m = 95 := by omega
                  rfl
        · rcases Nat.lt_or_ge m 100 with g100 | g100
          · rcases Nat.lt_or_ge m 98 with g98 | g98
            · rcases Nat.lt_or_ge m 97 with g97 | g97
              · obtain rfl : m = 96 := by omega
                rfl
              · obtain rfl : m = 97 := by omega
                rfl
            · rcases Nat.lt_or_ge m 99 with g99 | g99
              · obtain rfl : m = 98 := by omega
                rfl
              · obtain rfl : m = 99 := by omega
                rfl
          · rcases Nat.lt_or_ge m 102 with g102 | g102
            · rcases Nat.lt_or_ge m 101 with g101 | g101
              · obtain rfl : m = 100 := by omega
                rfl
              · obtain rfl : m = 101 := by omega
                rfl
            · rcases Nat.lt_or_ge m 103 with g103 | g103
              · obtain rfl : m = 102 := by omega
                rfl
              · rcases Nat.lt_or_ge m 104 with g104 | g104
                · obtain rfl : m = 103 := by omega
                  rfl
                · obtain rfl : m = 104 := by omega
                  rfl
    · rcases Nat.lt_or_ge m 123 with g123 | g123
      · rcases Nat.lt_or_ge m 114 with g114 | g114
        · rcases Nat.lt_or_ge m 109 with g109 | g109
          · rcases Nat.lt_or_ge m 107 with g107 | g107
            · rcases Nat.lt_or_ge m 106 with g106 | g106
              · obtain rfl : m = 105 := by omega
                rfl
              · obtain rfl : m = 106 := by omega
                rfl
            · rcases Nat.lt_or_ge m 108 with g108 | g108
              · obtain rfl : m = 107 := by omega
                rfl
              · obtain rfl : m = 108 := by omega
                rfl
          · rcases Nat.lt_or_ge m 111 with g111 | g111
            · rcases Nat.lt_or_ge m 110 with g110 | g110
              · obtain rfl : m = 109 := by omega
                rfl
              · obtain rfl : m = 110 := by omega
                rfl
            · rcases Nat.lt_or_ge m 112 with g112 | g112
              · obtain rfl : m = 111 := by omega
                rfl
              · rcases Nat.lt_or_ge m 113 with g113 | g113
                · obtain rfl : m = 112 := by omega
                  rfl
                · obtain rfl : m = 113 := by omega
                  rfl
        · rcases Nat.lt_or_ge m 118 with g118 | g118
          · rcases Nat.lt_or_ge m 116 with g116 | g116
            · rcases Nat.lt_or_ge m 115 with g115 | g115
              · obtain rfl : m = 114 := by omega
                rfl
              · obtain rfl : m = 115 := by omega
                rfl
            · rcases Nat.lt_or_ge m 117 with g117 | g117
              · obtain rfl : m = 116 := by omega
                rfl
              · obtain rfl : m = 117 := by omega
                rfl
          · rcases Nat.lt_or_ge m 120 with g120 | g120
            · rcases Nat.lt_or_ge m 119 with g119 | g119
              · obtain rfl : m = 118 := by omega
                rfl
              · obtain rfl : m = 119 := by omega
                rfl
            · rcases Nat.lt_or_ge m 121 with g121 | g121
              · obtain rfl : m = 120 := by omega
                rfl
              · rcases Nat.lt_or_ge m 122 with g122 | g122
                · obtain rfl : m = 121 := by omega
                  rfl
                · obtain rfl : m = 122 := by omega
                  rfl
      · rcases Nat.lt_or_ge m 132 with g132 | g132
        · rcases Nat.lt_or_ge m 127 with g127 | g127
          · rcases Nat.lt_or_ge m 125 with g125 | g125
            · rcases Nat.lt_or_ge m 124 with g124 | g124
              · obtain rfl : m = 123 := by omega
                rfl
              · obtain rfl : m = 124 := by omega
                rfl
            · rcases Nat.lt_or_ge m 126 with g126 | g126
              · obtain rfl : m = 125 := by omega
                rfl
              · obtain rfl : m = 126 := by omega
                rfl
          · rcases Nat.lt_or_ge m 129 with g129 | g129
            · rcases Nat.lt_or_ge m 128 with g128 | g128
              · obtain rfl : m = 127 := by omega
                rfl
              · obtain rfl : m = 128 := by omega
                rfl
            · rcases Nat.lt_or_ge m 130 with g130 | g130
              · obtain rfl : m = 129 := by omega
                rfl
              · rcases Nat.lt_or_ge m 131 with g131 | g131
                · obtain rfl : m = 130 := by omega
                  rfl
                · obtain rfl : m = 131 := by omega
                  rfl
        · rcases Nat.lt_or_ge m 136 with g136 | g136
          · rcases Nat.lt_or_ge m 134 with g134 | g134
            · rcases Nat.lt_or_ge m 133 with g133 | g133
              · obtain rfl : m = 132 := by omega
                rfl
              · obtain rfl : m = 133 := by omega
                rfl
            · rcases Nat.lt_or_ge m 135 with g135 | g135
              · obtain rfl : m = 134 := by omega
                rfl
              · obtain rfl : m = 135 := by omega
                rfl
          · rcases Nat.lt_or_ge m 138 with g138 | g138
            · rcases Nat.lt_or_ge m 137 with g137 | g137
              · obtain rfl : m = 136 := by omega
                rfl
              · obtain rfl : m = 137 := by omega
                rfl
            · rcases Nat.lt_or_ge m 139 with g139 | g139
              · obtain rfl : m = 138 := by omega
                rfl
              · rcases Nat.lt_or_ge m 140 with g140 | g140
                · obtain rfl : m = 139 := by omega
                  rfl
                · obtain rfl : m = 140 := by omega
                  rfl
theorem am_RRu0 {rt rs rd rl rx nt nw nf v : Nat} : am_uR (am_RR (rt, rs, rd, rl, rx, nt, nw, nf)) 1 2 v = am_RR (v, rs, rd, rl, rx, nt, nw, nf) := by
  funext m k
  rcases Nat.lt_or_ge m 141 with h | h
  · by_cases hm : m = 1
    · subst hm
      match k with
      | 0 => rfl
      | 1 => rfl
      | 2 => rfl
      | 3 => rfl
      | k + 4 => rfl
    · have hb : Nat.beq m 1 = false := by
        cases e : Nat.beq m 1
        · rfl
        · exact absurd (Nat.eq_of_beq_eq_true e) hm
      have e1 : am_uR (am_RR (rt, rs, rd, rl, rx, nt, nw, nf)) 1 2 v m k = am_RR (rt, rs, rd, rl, rx, nt, nw, nf) m k := by unfold am_uR; rw [hb]; rfl
      rw [e1]
      exact am_RRc0 hm h
  · have hb : Nat.beq m 1 = false := by
      cases e : Nat.beq m 1
      · rfl
      · have := Nat.eq_of_beq_eq_true e; omega
    have hc : Nat.ble m 139 = false := by
      cases e : Nat.ble m 139
      · rfl
      · have := Nat.le_of_ble_eq_true e; omega
    have e1 : am_uR (am_RR (rt, rs, rd, rl, rx, nt, nw, nf)) 1 2 v m k = am_RR (rt, rs, rd, rl, rx, nt, nw, nf) m k := by unfold am_uR; rw [hb]; rfl
    rw [e1]
    unfold am_RR
    rw [hc]
    rfl
set_option maxRecDepth 100000 in
theorem am_RRc1 {rt rs rd rl rx nt nw nf v m k : Nat} (hm : m ≠ 1) (h : m < 141) : am_RR (rt, rs, rd, rl, rx, nt, nw, nf) m k = am_RR (rt, v, rd, rl, rx, nt, nw, nf) m k := by
  rcases Nat.lt_or_ge m 70 with g70 | g70
  · rcases Nat.lt_or_ge m 35 with g35 | g35
    · rcases Nat.lt_or_ge m 17 with g17 | g17
      · rcases Nat.lt_or_ge m 8 with g8 | g8
        · rcases Nat.lt_or_ge m 4 with g4 | g4
          · rcases Nat.lt_or_ge m 2 with g2 | g2
            · rcases Nat.lt_or_ge m 1 with g1 | g1
              · obtain rfl : m = 0 := by omega
                rfl
              · exact absurd (show m = 1 by omega) hm
            · rcases Nat.lt_or_ge m 3 with g3 | g3
              · obtain rfl : m = 2 := by omega
                rfl
              · obtain rfl : m = 3 := by omega
                rfl
          · rcases Nat.lt_or_ge m 6 with g6 | g6
            · rcases Nat.lt_or_ge m 5 with g5 | g5
              · obtain rfl : m = 4 := by omega
                rfl
              · obtain rfl : m = 5 := by omega
                rfl
            · rcases Nat.lt_or_ge m 7 with g7 | g7
              · obtain rfl : m = 6 := by omega
                rfl
              · obtain rfl : m = 7 := by omega
                rfl
        · rcases Nat.lt_or_ge m 12 with g12 | g12
          · rcases Nat.lt_or_ge m 10 with g10 | g10
            · rcases Nat.lt_or_ge m 9 with g9 | g9
              · obtain rfl : m = 8 := by omega
                rfl
              · obtain rfl : m = 9 := by omega
                rfl
            · rcases Nat.lt_or_ge m 11 with g11 | g11
              · obtain rfl : m = 10 := by omega
                rfl
              · obtain rfl : m = 11 := by omega
                rfl
          · rcases Nat.lt_or_ge m 14 with g14 | g14
            · rcases Nat.lt_or_ge m 13 with g13 | g13
              · obtain rfl : m = 12 := by omega
                rfl
              · obtain rfl : m = 13 := by omega
                rfl
            · rcases Nat.lt_or_ge m 15 with g15 | g15
              · obtain rfl : m = 14 := by omega
                rfl
              · rcases Nat.lt_or_ge m 16 with g16 | g16
                · obtain rfl : m = 15 := by omega
                  rfl
                · obtain rfl : m = 16 := by omega
                  rfl
      · rcases Nat.lt_or_ge m 26 with g26 | g26
        · rcases Nat.lt_or_ge m 21 with g21 | g21
          · rcases Nat.lt_or_ge m 19 with g19 | g19
            · rcases Nat.lt_or_ge m 18 with g18 | g18
              · obtain rfl : m = 17 := by omega
                rfl
              · obtain rfl : m = 18 := by omega
                rfl
            · rcases Nat.lt_or_ge m 20 with g20 | g20
              · obtain rfl : m = 19 := by omega
                rfl
              · obtain rfl : m = 20 := by omega
                rfl
          · rcases Nat.lt_or_ge m 23 with g23 | g23
            · rcases Nat.lt_or_ge m 22 with g22 | g22
              · obtain rfl : m = 21 := by omega
                rfl
              · obtain rfl : m = 22 := by omega
                rfl
            · rcases Nat.lt_or_ge m 24 with g24 | g24
              · obtain rfl : m = 23 := by omega
                rfl
              · rcases Nat.lt_or_ge m 25 with g25 | g25
                · obtain rfl : m = 24 := by omega
                  rfl
                · obtain rfl : m = 25 := by omega
                  rfl
        · rcases Nat.lt_or_ge m 30 with g30 | g30
          · rcases Nat.lt_or_ge m 28 with g28 | g28
            · rcases Nat.lt_or_ge m 27 with g27 | g27
              · obtain rfl : m = 26 := by omega
                rfl
              · obtain rfl : m = 27 := by omega
                rfl
            · rcases Nat.lt_or_ge m 29 with g29 | g29
              · obtain rfl : m = 28 := by omega
                rfl
              · obtain rfl : m = 29 := by omega
                rfl
          · rcases Nat.lt_or_ge m 32 with g32 | g32
            · rcases Nat.lt_or_ge m 31 with g31 | g31
              · obtain rfl : m = 30 := by omega
                rfl
              · obtain rfl : m = 31 := by omega
                rfl
            · rcases Nat.lt_or_ge m 33 with g33 | g33
              · obtain rfl : m = 32 := by omega
                rfl
              · rcases Nat.lt_or_ge m 34 with g34 | g34
                · obtain rfl : m = 33 := by omega
                  rfl
                · obtain rfl : m = 34 := by omega
                  rfl
    · rcases Nat.lt_or_ge m 52 with g52 | g52
      · rcases Nat.lt_or_ge m 43 with g43 | g43
        · rcases Nat.lt_or_ge m 39 with g39 | g39
          · rcases Nat.lt_or_ge m 37 with g37 | g37
            · rcases Nat.lt_or_ge m 36 with g36 | g36
              · obtain rfl : m = 35 := by omega
                rfl
              · obtain rfl : m = 36 := by omega
                rfl
            · rcases Nat.lt_or_ge m 38 with g38 | g38
              · obtain rfl : m = 37 := by omega
                rfl
              · obtain rfl : m = 38 := by omega
                rfl
          · rcases Nat.lt_or_ge m 41 with g41 | g41
            · rcases Nat.lt_or_ge m 40 with g40 | g40
              · obtain rfl : m = 39 := by omega
                rfl
              · obtain rfl : m = 40 := by omega
                rfl
            · rcases Nat.lt_or_ge m 42 with g42 | g42
              · obtain rfl : m = 41 := by omega
                rfl
              · obtain rfl : m = 42 := by omega
                rfl
        · rcases Nat.lt_or_ge m 47 with g47 | g47
          · rcases Nat.lt_or_ge m 45 with g45 | g45
            · rcases Nat.lt_or_ge m 44 with g44 | g44
              · obtain rfl : m = 43 := by omega
                rfl
              · obtain rfl : m = 44 := by omega
                rfl
            · rcases Nat.lt_or_ge m 46 with g46 | g46
              · obtain rfl : m = 45 := by omega
                rfl
              · obtain rfl : m = 46 := by omega
                rfl
          · rcases Nat.lt_or_ge m 49 with g49 | g49
            · rcases Nat.lt_or_ge m 48 with g48 | g48
              · obtain rfl : m = 47 := by omega
                rfl
              · obtain rfl : m = 48 := by omega
                rfl
            · rcases Nat.lt_or_ge m 50 with g50 | g50
              · obtain rfl : m = 49 := by omega
                rfl
              · rcases Nat.lt_or_ge m 51 with g51 | g51
                · obtain rfl : m = 50 := by omega
                  rfl
                · obtain rfl : m = 51 := by omega
                  rfl
      · rcases Nat.lt_or_ge m 61 with g61 | g61
        · rcases Nat.lt_or_ge m 56 with g56 | g56
          · rcases Nat.lt_or_ge m 54 with g54 | g54
            · rcases Nat.lt_or_ge m 53 with g53 | g53
              · obtain rfl : m = 52 := by omega
                rfl
              · obtain rfl : m = 53 := by omega
                rfl
            · rcases Nat.lt_or_ge m 55 with g55 | g55
              · obtain rfl : m = 54 := by omega
                rfl
              · obtain rfl : m = 55 := by omega
                rfl
          · rcases Nat.lt_or_ge m 58 with g58 | g58
            · rcases Nat.lt_or_ge m 57 with g57 | g57
              · obtain rfl : m = 56 := by omega
                rfl
              · obtain rfl : m = 57 := by omega
                rfl
            · rcases Nat.lt_or_ge m 59 with g59 | g59
              · obtain rfl : m = 58 := by omega
                rfl
              · rcases Nat.lt_or_ge m 60 with g60 | g60
                · obtain rfl : m = 59 := by omega
                  rfl
                · obtain rfl : m = 60 := by omega
                  rfl
        · rcases Nat.lt_or_ge m 65 with g65 | g65
          · rcases Nat.lt_or_ge m 63 with g63 | g63
            · rcases Nat.lt_or_ge m 62 with g62 | g62
              · obtain rfl : m = 61 := by omega
                rfl
              · obtain rfl : m = 62 := by omega
                rfl
            · rcases Nat.lt_or_ge m 64 with g64 | g64
              · obtain rfl : m = 63 := by omega
                rfl
              · obtain rfl : m = 64 := by omega
                rfl
          · rcases Nat.lt_or_ge m 67 with g67 | g67
            · rcases Nat.lt_or_ge m 66 with g66 | g66
              · obtain rfl : m = 65 := by omega
                rfl
              · obtain rfl : m = 66 := by omega
                rfl
            · rcases Nat.lt_or_ge m 68 with g68 | g68
              · obtain rfl : m = 67 := by omega
                rfl
              · rcases Nat.lt_or_ge m 69 with g69 | g69
                · obtain rfl : m = 68 := by omega
                  rfl
                · obtain rfl : m = 69 := by omega
                  rfl
  · rcases Nat.lt_or_ge m 105 with g105 | g105
    · rcases Nat.lt_or_ge m 87 with g87 | g87
      · rcases Nat.lt_or_ge m 78 with g78 | g78
        · rcases Nat.lt_or_ge m 74 with g74 | g74
          · rcases Nat.lt_or_ge m 72 with g72 | g72
            · rcases Nat.lt_or_ge m 71 with g71 | g71
              · obtain rfl : m = 70 := by omega
                rfl
              · obtain rfl : m = 71 := by omega
                rfl
            · rcases Nat.lt_or_ge m 73 with g73 | g73
              · obtain rfl : m = 72 := by omega
                rfl
              · obtain rfl : m = 73 := by omega
                rfl
          · rcases Nat.lt_or_ge m 76 with g76 | g76
            · rcases Nat.lt_or_ge m 75 with g75 | g75
              · obtain rfl : m = 74 := by omega
                rfl
              · obtain rfl : m = 75 := by omega
                rfl
            · rcases Nat.lt_or_ge m 77 with g77 | g77
              · obtain rfl : m = 76 := by omega
                rfl
              · obtain rfl : m = 77 := by omega
                rfl
        · rcases Nat.lt_or_ge m 82 with g82 | g82
          · rcases Nat.lt_or_ge m 80 with g80 | g80
            · rcases Nat.lt_or_ge m 79 with g79 | g79
              · obtain rfl : m = 78 := by omega
                rfl
              · obtain rfl : m = 79 := by omega
                rfl
            · rcases Nat.lt_or_ge m 81 with g81 | g81
              · obtain rfl : m = 80 := by omega
                rfl
              · obtain rfl : m = 81 := by omega
                rfl
          · rcases Nat.lt_or_ge m 84 with g84 | g84
            · rcases Nat.lt_or_ge m 83 with g83 | g83
              · obtain rfl : m = 82 := by omega
                rfl
              · obtain rfl : m = 83 := by omega
                rfl
            · rcases Nat.lt_or_ge m 85 with g85 | g85
              · obtain rfl : m = 84 := by omega
                rfl
              · rcases Nat.lt_or_ge m 86 with g86 | g86
                · obtain rfl : m = 85 := by omega
                  rfl
                · obtain rfl : m = 86 := by omega
                  rfl
      · rcases Nat.lt_or_ge m 96 with g96 | g96
        · rcases Nat.lt_or_ge m 91 with g91 | g91
          · rcases Nat.lt_or_ge m 89 with g89 | g89
            · rcases Nat.lt_or_ge m 88 with g88 | g88
              · obtain rfl : m = 87 := by omega
                rfl
              · obtain rfl : m = 88 := by omega
                rfl
            · rcases Nat.lt_or_ge m 90 with g90 | g90
              · obtain rfl : m = 89 := by omega
                rfl
              · obtain rfl : m = 90 := by omega
                rfl
          · rcases Nat.lt_or_ge m 93 with g93 | g93
            · rcases Nat.lt_or_ge m 92 with g92 | g92
              · obtain rfl : m = 91 := by omega
                rfl
              · obtain rfl : m = 92 := by omega
                rfl
            · rcases Nat.lt_or_ge m 94 with g94 | g94
              · obtain rfl : m = 93 := by omega
                rfl
              · rcases Nat.lt_or_ge m 95 with g95 | g95
                · obtain rfl : m = 94 := by omega
                  rfl
                · obtain rfl : m = 95 := by omega
                  rfl
        · rcases Nat.lt_or_ge m 100 with g100 | g100
          · rcases Nat.lt_or_ge m 98 with g98 | g98
            · rcases Nat.lt_or_ge m 97 with g97 | g97
              · obtain rfl : m = 96 := by omega
                rfl
              · obtain rfl : m = 97 := by omega
                rfl
            · rcases Nat.lt_or_ge m 99 with g99 | g99
              · obtain rfl : m = 98 := by omega
                rfl
              · obtain rfl : m = 99 := by omega
                rfl
          · rcases Nat.lt_or_ge m 102 with g102 | g102
            · rcases Nat.lt_or_ge m 101 with g101 | g101
              · obtain rfl : m = 100 := by omega
                rfl
              · obtain rfl : m = 101 := by omega
                rfl
            · rcases Nat.lt_or_ge m 103 with g103 | g103
              · obtain rfl : m = 102 := by omega
                rfl
              · rcases Nat.lt_or_ge m 104 with g104 | g104
                · obtain rfl : m = 103 := by omega
                  rfl
                · obtain rfl : m = 104 := by omega
                  rfl
    · rcases Nat.lt_or_ge m 123 with g123 | g123
      · rcases Nat.lt_or_ge m 114 with g114 | g114
        · rcases Nat.lt_or_ge m 109 with g109 | g109
          · rcases Nat.lt_or_ge m 107 with g107 | g107
            · rcases Nat.lt_or_ge m 106 with g106 | g106
              · obtain rfl : m = 105 := by omega
                rfl
              · obtain rfl : m = 106 := by omega
                rfl
            · rcases Nat.lt_or_ge m 108 with g108 | g108
              · obtain rfl : m = 107 := by omega
                rfl
              · obtain rfl : m = 108 := by omega
                rfl
          · rcases Nat.lt_or_ge m 111 with g111 | g111
            · rcases Nat.lt_or_ge m 110 with g110 | g110
              · obtain rfl : m = 109 := by omega
                rfl
              · obtain rfl : m = 110 := by omega
                rfl
            · rcases Nat.lt_or_ge m 112 with g112 | g112
              · obtain rfl : m = 111 := by omega
                rfl
              · rcases Nat.lt_or_ge m 113 with g113 | g113
                · obtain rfl : m = 112 := by omega
                  rfl
                · obtain rfl : m = 113 := by omega
                  rfl
        · rcases Nat.lt_or_ge m 118 with g118 | g118
          · rcases Nat.lt_or_ge m 116 with g116 | g116
            · rcases Nat.lt_or_ge m 115 with g115 | g115
              · obtain rfl : m = 114 := by omega
                rfl
              · obtain rfl : m = 115 := by omega
                rfl
            · rcases Nat.lt_or_ge m 117 with g117 | g117
              · obtain rfl : m = 116 := by omega
                rfl
              · obtain rfl : m = 117 := by omega
                rfl
          · rcases Nat.lt_or_ge m 120 with g120 | g120
            · rcases Nat.lt_or_ge m 119 with g119 | g119
              · obtain rfl : m = 118 := by omega
                rfl
              · obtain rfl : m = 119 := by omega
                rfl
            · rcases Nat.lt_or_ge m 121 with g121 | g121
              · obtain rfl : m = 120 := by omega
                rfl
              · rcases Nat.lt_or_ge m 122 with g122 | g122
                · obtain rfl : m = 121 := by omega
                  rfl
                · obtain rfl : m = 122 := by omega
                  rfl
      · rcases Nat.lt_or_ge m 132 with g132 | g132
        · rcases Nat.lt_or_ge m 127 with g127 | g127
          · rcases Nat.lt_or_ge m 125 with g125 | g125
            · rcases Nat.lt_or_ge m 124 with g124 | g124
              · obtain rfl : m = 123 := by omega
                rfl
              · obtain rfl : m = 124 := by omega
                rfl
            · rcases Nat.lt_or_ge m 126 with g126 | g126
              · obtain rfl : m = 125 := by omega
                rfl
              · obtain rfl : m = 126 := by omega
                rfl
          · rcases Nat.lt_or_ge m 129 with g129 | g129
            · rcases Nat.lt_or_ge m 128 with g128 | g128
              · obtain rfl : m = 127 := by omega
                rfl
              · obtain rfl : m = 128 := by omega
                rfl
            · rcases Nat.lt_or_ge m 130 with g130 | g130
              · obtain rfl : m = 129 := by omega
                rfl
              · rcases Nat.lt_or_ge m 131 with g131 | g131
                · obtain rfl : m = 130 := by omega
                  rfl
                · obtain rfl : m = 131 := by omega
                  rfl
        · rcases Nat.lt_or_ge m 136 with g136 | g136
          · rcases Nat.lt_or_ge m 134 with g134 | g134
            · rcases Nat.lt_or_ge m 133 with g133 | g133
              · obtain rfl : m = 132 := by omega
                rfl
              · obtain rfl : m = 133 := by omega
                rfl
            · rcases Nat.lt_or_ge m 135 with g135 | g135
              · obtain rfl : m = 134 := by omega
                rfl
              · obtain rfl : m = 135 := by omega
                rfl
          · rcases Nat.lt_or_ge m 138 with g138 | g138
            · rcases Nat.lt_or_ge m 137 with g137 | g137
              · obtain rfl : m = 136 := by omega
                rfl
              · obtain rfl : m = 137 := by omega
                rfl
            · rcases Nat.lt_or_ge m 139 with g139 | g139
              · obtain rfl : m = 138 := by omega
                rfl
              · rcases Nat.lt_or_ge m 140 with g140 | g140
                · obtain rfl : m = 139 := by omega
                  rfl
                · obtain rfl : m = 140 := by omega
                  rfl
theorem am_RRu1 {rt rs rd rl rx nt nw nf v : Nat} : am_uR (am_RR (rt, rs, rd, rl, rx, nt, nw, nf)) 1 3 v = am_RR (rt, v, rd, rl, rx, nt, nw, nf) := by
  funext m k
  rcases Nat.lt_or_ge m 141 with h | h
  · by_cases hm : m = 1
    · subst hm
      match k with
      | 0 => rfl
      | 1 => rfl
      | 2 => rfl
      | 3 => rfl
      | k + 4 => rfl
    · have hb : Nat.beq m 1 = false := by
        cases e : Nat.beq m 1
        · rfl
        · exact absurd (Nat.eq_of_beq_eq_true e) hm
      have e1 : am_uR (am_RR (rt, rs, rd, rl, rx, nt, nw, nf)) 1 3 v m k = am_RR (rt, rs, rd, rl, rx, nt, nw, nf) m k := by unfold am_uR; rw [hb]; rfl
      rw [e1]
      exact am_RRc1 hm h
  · have hb : Nat.beq m 1 = false := by
      cases e : Nat.beq m 1
      · rfl
      · have := Nat.eq_of_beq_eq_true e; omega
    have hc : Nat.ble m 139 = false := by
      cases e : Nat.ble m 139
      · rfl
      · have := Nat.le_of_ble_eq_true e; omega
    have e1 : am_uR (am_RR (rt, rs, rd, rl, rx, nt, nw, nf)) 1 3 v m k = am_RR (rt, rs, rd, rl, rx, nt, nw, nf) m k := by unfold am_uR; rw [hb]; rfl
    rw [e1]
    unfold am_RR
    rw [hc]
    rfl
set_option maxRecDepth 100000 in
theorem am_RRc2 {rt rs rd rl rx nt nw nf v m k : Nat} (hm : m ≠ 43) (h : m < 141) : am_RR (rt, rs, rd, rl, rx, nt, nw, nf) m k = am_RR (rt, rs, v, rl, rx, nt, nw, nf) m k := by
  rcases Nat.lt_or_ge m 70 with g70 | g70
  · rcases Nat.lt_or_ge m 35 with g35 | g35
    · rcases Nat.lt_or_ge m 17 with g17 | g17
      · rcases Nat.lt_or_ge m 8 with g8 | g8
        · rcases Nat.lt_or_ge m 4 with g4 | g4
          · rcases Nat.lt_or_ge m 2 with g2 | g2
            · rcases Nat.lt_or_ge m 1 with g1 | g1
              · obtain rfl : m = 0 := by omega
                rfl
              · obtain rfl : m = 1 := by omega
                rfl
            · rcases Nat.lt_or_ge m 3 with g3 | g3
              · obtain rfl : m = 2 := by omega
                rfl
              · obtain rfl : m = 3 := by omega
                rfl
          · rcases Nat.lt_or_ge m 6 with g6 | g6
            · rcases Nat.lt_or_ge m 5 with g5 | g5
              · obtain rfl : m = 4 := by omega
                rfl
              · obtain rfl : m = 5 := by omega
                rfl
            · rcases Nat.lt_or_ge m 7 with g7 | g7
              · obtain rfl : m = 6 := by omega
                rfl
              · obtain rfl : m = 7 := by omega
                rfl
        · rcases Nat.lt_or_ge m 12 with g12 | g12
          · rcases Nat.lt_or_ge m 10 with g10 | g10
            · rcases Nat.lt_or_ge m 9 with g9 | g9
              · obtain rfl : m = 8 := by omega
                rfl
              · obtain rfl : m = 9 := by omega
                rfl
            · rcases Nat.lt_or_ge m 11 with g11 | g11
              · obtain rfl : m = 10 := by omega
                rfl
              · obtain rfl : m = 11 := by omega
                rfl
          · rcases Nat.lt_or_ge m 14 with g14 | g14
            · rcases Nat.lt_or_ge m 13 with g13 | g13
              · obtain rfl : m = 12 := by omega
                rfl
              · obtain rfl : m = 13 := by omega
                rfl
            · rcases Nat.lt_or_ge m 15 with g15 | g15
              · obtain rfl : m = 14 := by omega
                rfl
              · rcases Nat.lt_or_ge m 16 with g16 | g16
                · obtain rfl : m = 15 := by omega
                  rfl
                · obtain rfl : m = 16 := by omega
                  rfl
      · rcases Nat.lt_or_ge m 26 with g26 | g26
        · rcases Nat.lt_or_ge m 21 with g21 | g21
          · rcases Nat.lt_or_ge m 19 with g19 | g19
            · rcases Nat.lt_or_ge m 18 with g18 | g18
              · obtain rfl : m = 17 := by omega
                rfl
              · obtain rfl : m = 18 := by omega
                rfl
            · rcases Nat.lt_or_ge m 20 with g20 | g20
              · obtain rfl : m = 19 := by omega
                rfl
              · obtain rfl : m = 20 := by omega
                rfl
          · rcases Nat.lt_or_ge m 23 with g23 | g23
            · rcases Nat.lt_or_ge m 22 with g22 | g22
              · obtain rfl : m = 21 := by omega
                rfl
              · obtain rfl : m = 22 := by omega
                rfl
            · rcases Nat.lt_or_ge m 24 with g24 | g24
              · obtain rfl : m = 23 := by omega
                rfl
              · rcases Nat.lt_or_ge m 25 with g25 | g25
                · obtain rfl : m = 24 := by omega
                  rfl
                · obtain rfl : m = 25 := by omega
                  rfl
        · rcases Nat.lt_or_ge m 30 with g30 | g30
          · rcases Nat.lt_or_ge m 28 with g28 | g28
            · rcases Nat.lt_or_ge m 27 with g27 | g27
              · obtain rfl : m = 26 := by omega
                rfl
              · obtain rfl : m = 27 := by omega
                rfl
            · rcases Nat.lt_or_ge m 29 with g29 | g29
              · obtain rfl : m = 28 := by omega
                rfl
              · obtain rfl : m = 29 := by omega
                rfl
          · rcases Nat.lt_or_ge m 32 with g32 | g32
            · rcases Nat.lt_or_ge m 31 with g31 | g31
              · obtain rfl : m = 30 := by omega
                rfl
              · obtain rfl : m = 31 := by omega
                rfl
            · rcases Nat.lt_or_ge m 33 with g33 | g33
              · obtain rfl : m = 32 := by omega
                rfl
              · rcases Nat.lt_or_ge m 34 with g34 | g34
                · obtain rfl : m = 33 := by omega
                  rfl
                · obtain rfl : m = 34 := by omega
                  rfl
    · rcases Nat.lt_or_ge m 52 with g52 | g52
      · rcases Nat.lt_or_ge m 43 with g43 | g43
        · rcases Nat.lt_or_ge m 39 with g39 | g39
          · rcases Nat.lt_or_ge m 37 with g37 | g37
            · rcases Nat.lt_or_ge m 36 with g36 | g36
              · obtain rfl : m = 35 := by omega
                rfl
              · obtain rfl : m = 36 := by omega
                rfl
            · rcases Nat.lt_or_ge m 38 with g38 | g38
              · obtain rfl : m = 37 := by omega
                rfl
              · obtain rfl : m = 38 := by omega
                rfl
          · rcases Nat.lt_or_ge m 41 with g41 | g41
            · rcases Nat.lt_or_ge m 40 with g40 | g40
              · obtain rfl : m = 39 := by omega
                rfl
              · obtain rfl : m = 40 := by omega
                rfl
            · rcases Nat.lt_or_ge m 42 with g42 | g42
              · obtain rfl : m = 41 := by omega
                rfl
              · obtain rfl : m = 42 := by omega
                rfl
        · rcases Nat.lt_or_ge m 47 with g47 | g47
          · rcases Nat.lt_or_ge m 45 with g45 | g45
            · rcases Nat.lt_or_ge m 44 with g44 | g44
              · exact absurd (show m = 43 by omega) hm
              · obtain rfl : m = 44 := by omega
                rfl
            · rcases Nat.lt_or_ge m 46 with g46 | g46
              · obtain rfl : m = 45 := by omega
                rfl
              · obtain rfl : m = 46 := by omega
                rfl
          · rcases Nat.lt_or_ge m 49 with g49 | g49
            · rcases Nat.lt_or_ge m 48 with g48 | g48
              · obtain rfl : m = 47 := by omega
                rfl
              · obtain rfl : m = 48 := by omega
                rfl
            · rcases Nat.lt_or_ge m 50 with g50 | g50
              · obtain rfl : m = 49 := by omega
                rfl
              · rcases Nat.lt_or_ge m 51 with g51 | g51
                · obtain rfl : m = 50 := by omega
                  rfl
                · obtain rfl : m = 51 := by omega
                  rfl
      · rcases Nat.lt_or_ge m 61 with g61 | g61
        · rcases Nat.lt_or_ge m 56 with g56 | g56
          · rcases Nat.lt_or_ge m 54 with g54 | g54
            · rcases Nat.lt_or_ge m 53 with g53 | g53
              · obtain rfl : m = 52 := by omega
                rfl
              · obtain rfl : m = 53 := by omega
                rfl
            · rcases Nat.lt_or_ge m 55 with g55 | g55
              · obtain rfl : m = 54 := by omega
                rfl
              · obtain rfl : m = 55 := by omega
                rfl
          · rcases Nat.lt_or_ge m 58 with g58 | g58
            · rcases Nat.lt_or_ge m 57 with g57 | g57
              · obtain rfl : m = 56 := by omega
                rfl
              · obtain rfl : m = 57 := by omega
                rfl
            · rcases Nat.lt_or_ge m 59 with g59 | g59
              · obtain rfl : m = 58 := by omega
                rfl
              · rcases Nat.lt_or_ge m 60 with g60 | g60
                · obtain rfl : m = 59 := by omega
                  rfl
                · obtain rfl : m = 60 := by omega
                  rfl
        · rcases Nat.lt_or_ge m 65 with g65 | g65
          · rcases Nat.lt_or_ge m 63 with g63 | g63
            · rcases Nat.lt_or_ge m 62 with g62 | g62
              · obtain rfl : m = 61 := by omega
                rfl
              · obtain rfl : m = 62 := by omega
                rfl
            · rcases Nat.lt_or_ge m 64 with g64 | g64
              · obtain rfl : m = 63 := by omega
                rfl
              · obtain rfl : m = 64 := by omega
                rfl
          · rcases Nat.lt_or_ge m 67 with g67 | g67
            · rcases Nat.lt_or_ge m 66 with g66 | g66
              · obtain rfl : m = 65 := by omega
                rfl
              · obtain rfl : m = 66 := by omega
                rfl
            · rcases Nat.lt_or_ge m 68 with g68 | g68
              · obtain rfl : m = 67 := by omega
                rfl
              · rcases Nat.lt_or_ge m 69 with g69 | g69
                · obtain rfl : m = 68 := by omega
                  rfl
                · obtain rfl : m = 69 := by omega
                  rfl
  · rcases Nat.lt_or_ge m 105 with g105 | g105
    · rcases Nat.lt_or_ge m 87 with g87 | g87
      · rcases Nat.lt_or_ge m 78 with g78 | g78
        · rcases Nat.lt_or_ge m 74 with g74 | g74
          · rcases Nat.lt_or_ge m 72 with g72 | g72
            · rcases Nat.lt_or_ge m 71 with g71 | g71
              · obtain rfl : m = 70 := by omega
                rfl
              · obtain rfl : m = 71 := by omega
                rfl
            · rcases Nat.lt_or_ge m 73 with g73 | g73
              · obtain rfl : m = 72 := by omega
                rfl
              · obtain rfl : m = 73 := by omega
                rfl
          · rcases Nat.lt_or_ge m 76 with g76 | g76
            · rcases Nat.lt_or_ge m 75 with g75 | g75
              · obtain rfl : m = 74 := by omega
                rfl
              · obtain rfl : m = 75 := by omega
                rfl
            · rcases Nat.lt_or_ge m 77 with g77 | g77
              · obtain rfl : m = 76 := by omega
                rfl
              · obtain rfl : m = 77 := by omega
                rfl
        · rcases Nat.lt_or_ge m 82 with g82 | g82
          · rcases Nat.lt_or_ge m 80 with g80 | g80
            · rcases Nat.lt_or_ge m 79 with g79 | g79
              · obtain rfl : m = 78 := by omega
                rfl
              · obtain rfl : m = 79 := by omega
                rfl
            · rcases Nat.lt_or_ge m 81 with g81 | g81
              · obtain rfl : m = 80 := by omega
                rfl
              · obtain rfl : m = 81 := by omega
                rfl
          · rcases Nat.lt_or_ge m 84 with g84 | g84
            · rcases Nat.lt_or_ge m 83 with g83 | g83
              · obtain rfl : m = 82 := by omega
                rfl
              · obtain rfl : m = 83 := by omega
                rfl
            · rcases Nat.lt_or_ge m 85 with g85 | g85
              · obtain rfl : m = 84 := by omega
                rfl
              · rcases Nat.lt_or_ge m 86 with g86 | g86
                · obtain rfl : m = 85 := by omega
                  rfl
                · obtain rfl : m = 86 := by omega
                  rfl
      · rcases Nat.lt_or_ge m 96 with g96 | g96
        · rcases Nat.lt_or_ge m 91 with g91 | g91
          · rcases Nat.lt_or_ge m 89 with g89 | g89
            · rcases Nat.lt_or_ge m 88 with g88 | g88
              · obtain rfl : m = 87 := by omega
                rfl
              · obtain rfl : m = 88 := by omega
                rfl
            · rcases Nat.lt_or_ge m 90 with g90 | g90
              · obtain rfl : m = 89 := by omega
                rfl
              · obtain rfl : m = 90 := by omega
                rfl
          · rcases Nat.lt_or_ge m 93 with g93 | g93
            · rcases Nat.lt_or_ge m 92 with g92 | g92
              · obtain rfl : m = 91 := by omega
                rfl
              · obtain rfl : m = 92 := by omega
                rfl
            · rcases Nat.lt_or_ge m 94 with g94 | g94
              · obtain rfl : m = 93 := by omega
                rfl
              · rcases Nat.lt_or_ge m 95 with g95 | g95
                · obtain rfl : m = 94 := by omega
                  rfl
                · obtain rfl : m = 95 := by omega
                  rfl
        · rcases Nat.lt_or_ge m 100 with g100 | g100
          · rcases Nat.lt_or_ge m 98 with g98 | g98
            · rcases Nat.lt_or_ge m 97 with g97 | g97
              · obtain rfl : m = 96 := by omega
                rfl
              · obtain rfl : m = 97 := by omega
                rfl
            · rcases Nat.lt_or_ge m 99 with g99 | g99
              · obtain rfl : m = 98 := by omega
                rfl
              · obtain rfl : m = 99 := by omega
                rfl
          · rcases Nat.lt_or_ge m 102 with g102 | g102
            · rcases Nat.lt_or_ge m 101 with g101 | g101
              · obtain rfl : m = 100 := by omega
                rfl
              · obtain rfl : m = 101 := by omega
                rfl
            · rcases Nat.lt_or_ge m 103 with g103 | g103
              · obtain rfl : m = 102 := by omega
                rfl
              · rcases Nat.lt_or_ge m 104 with g104 | g104
                · obtain rfl : m = 103 := by omega
                  rfl
                · obtain rfl : m = 104 := by omega
                  rfl
    · rcases Nat.lt_or_ge m 123 with g123 | g123
      · rcases Nat.lt_or_ge m 114 with g114 | g114
        · rcases Nat.lt_or_ge m 109 with g109 | g109
          · rcases Nat.lt_or_ge m 107 with g107 | g107
            · rcases Nat.lt_or_ge m 106 with g106 | g106
              · obtain rfl : m = 105 := by omega
                rfl
              · obtain rfl : m = 106 := by omega
                rfl
            · rcases Nat.lt_or_ge m 108 with g108 | g108
              · obtain rfl : m = 107 := by omega
                rfl
              · obtain rfl : m = 108 := by omega
                rfl
          · rcases Nat.lt_or_ge m 111 with g111 | g111
            · rcases Nat.lt_or_ge m 110 with g110 | g110
              · obtain rfl : m = 109 := by omega
                rfl
              · obtain rfl : m = 110 := by omega
                rfl
            · rcases Nat.lt_or_ge m 112 with g112 | g112
              · obtain rfl : m = 111 := by omega
                rfl
              · rcases Nat.lt_or_ge m 113 with g113 | g113
                · obtain rfl : m = 112 := by omega
                  rfl
                · obtain rfl : m = 113 := by omega
                  rfl
        · rcases Nat.lt_or_ge m 118 with g118 | g118
          · rcases Nat.lt_or_ge m 116 with g116 | g116
            · rcases Nat.lt_or_ge m 115 with g115 | g115
              · obtain rfl : m = 114 := by omega
                rfl
              · obtain rfl : m = 115 := by omega
                rfl
            · rcases Nat.lt_or_ge m 117 with g117 | g117
              · obtain rfl : m = 116 := by omega
                rfl
              · obtain rfl : m = 117 := by omega
                rfl
          · rcases Nat.lt_or_ge m 120 with g120 | g120
            · rcases Nat.lt_or_ge m 119 with g119 | g119
              · obtain rfl : m = 118 := by omega
                rfl
              · obtain rfl : m = 119 := by omega
                rfl
            · rcases Nat.lt_or_ge m 121 with g121 | g121
              · obtain rfl : m = 120 := by omega
                rfl
              · rcases Nat.lt_or_ge m 122 with g122 | g122
                · obtain rfl : m = 121 := by omega
                  rfl
                · obtain rfl : m = 122 := by omega
                  rfl
      · rcases Nat.lt_or_ge m 132 with g132 | g132
        · rcases Nat.lt_or_ge m 127 with g127 | g127
          · rcases Nat.lt_or_ge m 125 with g125 | g125
            · rcases Nat.lt_or_ge m 124 with g124 | g124
              · obtain rfl : m = 123 := by omega
                rfl
              · obtain rfl : m = 124 := by omega
                rfl
            · rcases Nat.lt_or_ge m 126 with g126 | g126
              · obtain rfl : m = 125 := by omega
                rfl
              · obtain rfl : m = 126 := by omega
                rfl
          · rcases Nat.lt_or_ge m 129 with g129 | g129
            · rcases Nat.lt_or_ge m 128 with g128 | g128
              · obtain rfl : m = 127 := by omega
                rfl
              · obtain rfl : m = 128 := by omega
                rfl
            · rcases Nat.lt_or_ge m 130 with g130 | g130
              · obtain rfl : m = 129 := by omega
                rfl
              · rcases Nat.lt_or_ge m 131 with g131 | g131
                · obtain rfl : m = 130 := by omega
                  rfl
                · obtain rfl : m = 131 := by omega
                  rfl
        · rcases Nat.lt_or_ge m 136 with g136 | g136
          · rcases Nat.lt_or_ge m 134 with g134 | g134
            · rcases Nat.lt_or_ge m 133 with g133 | g133
              · obtain rfl : m = 132 := by omega
                rfl
              · obtain rfl : m = 133 := by omega
                rfl
            · rcases Nat.lt_or_ge m 135 with g135 | g135
              · obtain rfl : m = 134 := by omega
                rfl
              · obtain rfl : m = 135 := by omega
                rfl
          · rcases Nat.lt_or_ge m 138 with g138 | g138
            · rcases Nat.lt_or_ge m 137 with g137 | g137
              · obtain rfl : m = 136 := by omega
                rfl
              · obtain rfl : m = 137 := by omega
                rfl
            · rcases Nat.lt_or_ge m 139 with g139 | g139
              · obtain rfl : m = 138 := by omega
                rfl
              · rcases Nat.lt_or_ge m 140 with g140 | g140
                · obtain rfl : m = 139 := by omega
                  rfl
                · obtain rfl : m = 140 := by omega
                  rfl
theorem am_RRu2 {rt rs rd rl rx nt nw nf v : Nat} : am_uR (am_RR (rt, rs, rd, rl, rx, nt, nw, nf)) 43 2 v = am_RR (rt, rs, v, rl, rx, nt, nw, nf) := by
  funext m k
  rcases Nat.lt_or_ge m 141 with h | h
  · by_cases hm : m = 43
    · subst hm
      match k with
      | 0 => rfl
      | 1 => rfl
      | 2 => rfl
      | 3 => rfl
      | k + 4 => rfl
    · have hb : Nat.beq m 43 = false := by
        cases e : Nat.beq m 43
        · rfl
        · exact absurd (Nat.eq_of_beq_eq_true e) hm
      have e1 : am_uR (am_RR (rt, rs, rd, rl, rx, nt, nw, nf)) 43 2 v m k = am_RR (rt, rs, rd, rl, rx, nt, nw, nf) m k := by unfold am_uR; rw [hb]; rfl
      rw [e1]
      exact am_RRc2 hm h
  · have hb : Nat.beq m 43 = false := by
      cases e : Nat.beq m 43
      · rfl
      · have := Nat.eq_of_beq_eq_true e; omega
    have hc : Nat.ble m 139 = false := by
      cases e : Nat.ble m 139
      · rfl
      · have := Nat.le_of_ble_eq_true e; omega
    have e1 : am_uR (am_RR (rt, rs, rd, rl, rx, nt, nw, nf)) 43 2 v m k = am_RR (rt, rs, rd, rl, rx, nt, nw, nf) m k := by unfold am_uR; rw [hb]; rfl
    rw [e1]
    unfold am_RR
    rw [hc]
    rfl
set_option maxRecDepth 100000 in
theorem am_RRc3 {rt rs rd rl rx nt nw nf v m k : Nat} (hm : m ≠ 46) (h : m < 141) : am_RR (rt, rs, rd, rl, rx, nt, nw, nf) m k = am_RR (rt, rs, rd, v, rx, nt, nw, nf) m k := by
  rcases Nat.lt_or_ge m 70 with g70 | g70
  · rcases Nat.lt_or_ge m 35 with g35 | g35
    · rcases Nat.lt_or_ge m 17 with g17 | g17
      · rcases Nat.lt_or_ge m 8 with g8 | g8
        · rcases Nat.lt_or_ge m 4 with g4 | g4
          · rcases Nat.lt_or_ge m 2 with g2 | g2
            · rcases Nat.lt_or_ge m 1 with g1 | g1
              · obtain rfl : m = 0 := by omega
                rfl
              · obtain rfl : m = 1 := by omega
                rfl
            · rcases Nat.lt_or_ge m 3 with g3 | g3
              · obtain rfl : m = 2 := by omega
                rfl
              · obtain rfl : m = 3 := by omega
                rfl
          · rcases Nat.lt_or_ge m 6 with g6 | g6
            · rcases Nat.lt_or_ge m 5 with g5 | g5
              · obtain rfl : m = 4 := by omega
                rfl
              · obtain rfl : m = 5 := by omega
                rfl
            · rcases Nat.lt_or_ge m 7 with g7 | g7
              · obtain rfl : m = 6 := by omega
                rfl
              · obtain rfl : m = 7 := by omega
                rfl
        · rcases Nat.lt_or_ge m 12 with g12 | g12
          · rcases Nat.lt_or_ge m 10 with g10 | g10
            · rcases Nat.lt_or_ge m 9 with g9 | g9
              · obtain rfl : m = 8 := by omega
                rfl
              · obtain rfl : m = 9 := by omega
                rfl
            · rcases Nat.lt_or_ge m 11 with g11 | g11
              · obtain rfl : m = 10 := by omega
                rfl
              · obtain rfl : m = 11 := by omega
                rfl
          · rcases Nat.lt_or_ge m 14 with g14 | g14
            · rcases Nat.lt_or_ge m 13 with g13 | g13
              · obtain rfl : m = 12 := by omega
                rfl
              · obtain rfl : m = 13 := by omega
                rfl
            · rcases Nat.lt_or_ge m 15 with g15 | g15
              · obtain rfl : m = 14 := by omega
                rfl
              · rcases Nat.lt_or_ge m 16 with g16 | g16
                · obtain rfl : m = 15 := by omega
                  rfl
                · obtain rfl : m = 16 := by omega
                  rfl
      · rcases Nat.lt_or_ge m 26 with g26 | g26
        · rcases Nat.lt_or_ge m 21 with g21 | g21
          · rcases Nat.lt_or_ge m 19 with g19 | g19
            · rcases Nat.lt_or_ge m 18 with g18 | g18
              · obtain rfl : m = 17 := by omega
                rfl
              · obtain rfl : m = 18 := by omega
                rfl
            · rcases Nat.lt_or_ge m 20 with g20 | g20
              · obtain rfl : m = 19 := by omega
                rfl
              · obtain rfl : m = 20 := by omega
                rfl
          · rcases Nat.lt_or_ge m 23 with g23 | g23
            · rcases Nat.lt_or_ge m 22 with g22 | g22
              · obtain rfl : m = 21 := by omega
                rfl
              · obtain rfl : m = 22 := by omega
                rfl
            · rcases Nat.lt_or_ge m 24 with g24 | g24
              · obtain rfl : m = 23 := by omega
                rfl
              · rcases Nat.lt_or_ge m 25 with g25 | g25
                · obtain rfl : m = 24 := by omega
                  rfl
                · obtain rfl : m = 25 := by omega
                  rfl
        · rcases Nat.lt_or_ge m 30 with g30 | g30
          · rcases Nat.lt_or_ge m 28 with g28 | g28
            · rcases Nat.lt_or_ge m 27 with g27 | g27
              · obtain rfl : m = 26 := by omega
                rfl
              · obtain rfl : m = 27 := by omega
                rfl
            · rcases Nat.lt_or_ge m 29 with g29 | g29
              · obtain rfl : m = 28 := by omega
                rfl
              · obtain rfl : m = 29 := by omega
                rfl
          · rcases Nat.lt_or_ge m 32 with g32 | g32
            · rcases Nat.lt_or_ge m 31 with g31 | g31
              · obtain rfl : m = 30 := by omega
                rfl
              · obtain rfl : m = 31 := by omega
                rfl
            · rcases Nat.lt_or_ge m 33 with g33 | g33
              · obtain rfl : m = 32 := by omega
                rfl
              · rcases Nat.lt_or_ge m 34 with g34 | g34
                · obtain rfl : m = 33 := by omega
                  rfl
                · obtain rfl : m = 34 := by omega
                  rfl
    · rcases Nat.lt_or_ge m 52 with g52 | g52
      · rcases Nat.lt_or_ge m 43 with g43 | g43
        · rcases Nat.lt_or_ge m 39 with g39 | g39
          · rcases Nat.lt_or_ge m 37 with g37 | g37
            · rcases Nat.lt_or_ge m 36 with g36 | g36
              · obtain rfl : m = 35 := by omega
                rfl
              · obtain rfl : m = 36 := by omega
                rfl
            · rcases Nat.lt_or_ge m 38 with g38 | g38
              · obtain rfl : m = 37 := by omega
                rfl
              · obtain rfl : m = 38 := by omega
                rfl
          · rcases Nat.lt_or_ge m 41 with g41 | g41
            · rcases Nat.lt_or_ge m 40 with g40 | g40
              · obtain rfl : m = 39 := by omega
                rfl
              · obtain rfl : m = 40 := by omega
                rfl
            · rcases Nat.lt_or_ge m 42 with g42 | g42
              · obtain rfl : m = 41 := by omega
                rfl
              · obtain rfl : m = 42 := by omega
                rfl
        · rcases Nat.lt_or_ge m 47 with g47 | g47
          · rcases Nat.lt_or_ge m 45 with g45 | g45
            · rcases Nat.lt_or_ge m 44 with g44 | g44
              · obtain rfl : m = 43 := by omega
                rfl
              · obtain rfl : m = 44 := by omega
                rfl
            · rcases Nat.lt_or_ge m 46 with g46 | g46
              · obtain rfl : m = 45 := by omega
                rfl
              · exact absurd (show m = 46 by omega) hm
          · rcases Nat.lt_or_ge m 49 with g49 | g49
            · rcases Nat.lt_or_ge m 48 with g48 | g48
              · obtain rfl : m = 47 := by omega
                rfl
              · obtain rfl : m = 48 := by omega
                rfl
            · rcases Nat.lt_or_ge m 50 with g50 | g50
              · obtain rfl : m = 49 := by omega
                rfl
              · rcases Nat.lt_or_ge m 51 with g51 | g51
                · obtain rfl : m = 50 := by omega
                  rfl
                · obtain rfl : m = 51 := by omega
                  rfl
      · rcases Nat.lt_or_ge m 61 with g61 | g61
        · rcases Nat.lt_or_ge m 56 with g56 | g56
          · rcases Nat.lt_or_ge m 54 with g54 | g54
            · rcases Nat.lt_or_ge m 53 with g53 | g53
              · obtain rfl : m = 52 := by omega
                rfl
              · obtain rfl : m = 53 := by omega
                rfl
            · rcases Nat.lt_or_ge m 55 with g55 | g55
              · obtain rfl : m = 54 := by omega
                rfl
              · obtain rfl : m = 55 := by omega
                rfl
          · rcases Nat.lt_or_ge m 58 with g58 | g58
            · rcases Nat.lt_or_ge m 57 with g57 | g57
              · obtain rfl : m = 56 := by omega
                rfl
              · obtain rfl : m = 57 := by omega
                rfl
            · rcases Nat.lt_or_ge m 59 with g59 | g59
              · obtain rfl : m = 58 := by omega
                rfl
              · rcases Nat.lt_or_ge m 60 with g60 | g60
                · obtain rfl : m = 59 := by omega
                  rfl
                · obtain rfl : m = 60 := by omega
                  rfl
        · rcases Nat.lt_or_ge m 65 with g65 | g65
          · rcases Nat.lt_or_ge m 63 with g63 | g63
            · rcases Nat.lt_or_ge m 62 with g62 | g62
              · obtain rfl : m = 61 := by omega
                rfl
              · obtain rfl : m = 62 := by omega
                rfl
            · rcases Nat.lt_or_ge m 64 with g64 | g64
              · obtain rfl : m = 63 := by omega
                rfl
              · obtain rfl : m = 64 := by omega
                rfl
          · rcases Nat.lt_or_ge m 67 with g67 | g67
            · rcases Nat.lt_or_ge m 66 with g66 | g66
              · obtain rfl : m = 65 := by omega
                rfl
              · obtain rfl : m = 66 := by omega
                rfl
            · rcases Nat.lt_or_ge m 68 with g68 | g68
              · obtain rfl : m = 67 := by omega
                rfl
              · rcases Nat.lt_or_ge m 69 with g69 | g69
                · obtain rfl : m = 68 := by omega
                  rfl
                · obtain rfl : m = 69 := by omega
                  rfl
  · rcases Nat.lt_or_ge m 105 with g105 | g105
    · rcases Nat.lt_or_ge m 87 with g87 | g87
      · rcases Nat.lt_or_ge m 78 with g78 | g78
        · rcases Nat.lt_or_ge m 74 with g74 | g74
          · rcases Nat.lt_or_ge m 72 with g72 | g72
            · rcases Nat.lt_or_ge m 71 with g71 | g71
              · obtain rfl : m = 70 := by omega
                rfl
              · obtain rfl : m = 71 := by omega
                rfl
            · rcases Nat.lt_or_ge m 73 with g73 | g73
              · obtain rfl : m = 72 := by omega
                rfl
              · obtain rfl : m = 73 := by omega
                rfl
          · rcases Nat.lt_or_ge m 76 with g76 | g76
            · rcases Nat.lt_or_ge m 75 with g75 | g75
              · obtain rfl : m = 74 := by omega
                rfl
              · obtain rfl : m = 75 := by omega
                rfl
            · rcases Nat.lt_or_ge m 77 with g77 | g77
              · obtain rfl : m = 76 := by omega
                rfl
              · obtain rfl : m = 77 := by omega
                rfl
        · rcases Nat.lt_or_ge m 82 with g82 | g82
          · rcases Nat.lt_or_ge m 80 with g80 | g80
            · rcases Nat.lt_or_ge m 79 with g79 | g79
              · obtain rfl : m = 78 := by omega
                rfl
              · obtain rfl : m = 79 := by omega
                rfl
            · rcases Nat.lt_or_ge m 81 with g81 | g81
              · obtain rfl : m = 80 := by omega
                rfl
              · obtain rfl : m = 81 := by omega
                rfl
          · rcases Nat.lt_or_ge m 84 with g84 | g84
            · rcases Nat.lt_or_ge m 83 with g83 | g83
              · obtain rfl : m = 82 := by omega
                rfl
              · obtain rfl : m = 83 := by omega
                rfl
            · rcases Nat.lt_or_ge m 85 with g85 | g85
              · obtain rfl : m = 84 := by omega
                rfl
              · rcases Nat.lt_or_ge m 86 with g86 | g86
                · obtain rfl : m = 85 := by omega
                  rfl
                · obtain rfl : m = 86 := by omega
                  rfl
      · rcases Nat.lt_or_ge m 96 with g96 | g96
        · rcases Nat.lt_or_ge m 91 with g91 | g91
          · rcases Nat.lt_or_ge m 89 with g89 | g89
            · rcases Nat.lt_or_ge m 88 with g88 | g88
              · obtain rfl : m = 87 := by omega
                rfl
              · obtain rfl : m = 88 := by omega
                rfl
            · rcases Nat.lt_or_ge m 90 with g90 | g90
              · obtain rfl : m = 89 := by omega
                rfl
              · obtain rfl : m = 90 := by omega
                rfl
          · rcases Nat.lt_or_ge m 93 with g93 | g93
            · rcases Nat.lt_or_ge m 92 with g92 | g92
              · obtain rfl : m = 91 := by omega
                rfl
              · obtain rfl : m = 92 := by omega
                rfl
            · rcases Nat.lt_or_ge m 94 with g94 | g94
              · obtain rfl : m = 93 := by omega
                rfl
              · rcases Nat.lt_or_ge m 95 with g95 | g95
                · obtain rfl : m = 94 := by omega
                  rfl
                · obtain rfl : m = 95 := by omega
                  rfl
        · rcases Nat.lt_or_ge m 100 with g100 | g100
          · rcases Nat.lt_or_ge m 98 with g98 | g98
            · rcases Nat.lt_or_ge m 97 with g97 | g97
              · obtain rfl : m = 96 := by omega
                rfl
              · obtain rfl : m = 97 := by omega
                rfl
            · rcases Nat.lt_or_ge m 99 with g99 | g99
              · obtain rfl : m = 98 := by omega
                rfl
              · obtain rfl : m = 99 := by omega
                rfl
          · rcases Nat.lt_or_ge m 102 with g102 | g102
            · rcases Nat.lt_or_ge m 101 with g101 | g101
              · obtain rfl : m = 100 := by omega
                rfl
              · obtain rfl : m = 101 := by omega
                rfl
            · rcases Nat.lt_or_ge m 103 with g103 | g103
              · obtain rfl : m = 102 := by omega
                rfl
              · rcases Nat.lt_or_ge m 104 with g104 | g104
                · obtain rfl : m = 103 := by omega
                  rfl
                · obtain rfl : m = 104 := by omega
                  rfl
    · rcases Nat.lt_or_ge m 123 with g123 | g123
      · rcases Nat.lt_or_ge m 114 with g114 | g114
        · rcases Nat.lt_or_ge m 109 with g109 | g109
          · rcases Nat.lt_or_ge m 107 with g107 | g107
            · rcases Nat.lt_or_ge m 106 with g106 | g106
              · obtain rfl : m = 105 := by omega
                rfl
              · obtain rfl : m = 106 := by omega
                rfl
            · rcases Nat.lt_or_ge m 108 with g108 | g108
              · obtain rfl : m = 107 := by omega
                rfl
              · obtain rfl : m = 108 := by omega
                rfl
          · rcases Nat.lt_or_ge m 111 with g111 | g111
            · rcases Nat.lt_or_ge m 110 with g110 | g110
              · obtain rfl : m = 109 := by omega
                rfl
              · obtain rfl : m = 110 := by omega
                rfl
            · rcases Nat.lt_or_ge m 112 with g112 | g112
              · obtain rfl : m = 111 := by omega
                rfl
              · rcases Nat.lt_or_ge m 113 with g113 | g113
                · obtain rfl : m = 112 := by omega
                  rfl
                · obtain rfl : m = 113 := by omega
                  rfl
        · rcases Nat.lt_or_ge m 118 with g118 | g118
          · rcases Nat.lt_or_ge m 116 with g116 | g116
            · rcases Nat.lt_or_ge m 115 with g115 | g115
              · obtain rfl : m = 114 := by omega
                rfl
              · obtain rfl : m = 115 := by omega
                rfl
            · rcases Nat.lt_or_ge m 117 with g117 | g117
              · obtain rfl : m = 116 := by omega
                rfl
              · obtain rfl : m = 117 := by omega
                rfl
          · rcases Nat.lt_or_ge m 120 with g120 | g120
            · rcases Nat.lt_or_ge m 119 with g119 | g119
              · obtain rfl : m = 118 := by omega
                rfl
              · obtain rfl : m = 119 := by omega
                rfl
            · rcases Nat.lt_or_ge m 121 with g121 | g121
              · obtain rfl : m = 120 := by omega
                rfl
              · rcases Nat.lt_or_ge m 122 with g122 | g122
                · obtain rfl : m = 121 := by omega
                  rfl
                · obtain rfl : m = 122 := by omega
                  rfl
      · rcases Nat.lt_or_ge m 132 with g132 | g132
        · rcases Nat.lt_or_ge m 127 with g127 | g127
          · rcases Nat.lt_or_ge m 125 with g125 | g125
            · rcases Nat.lt_or_ge m 124 with g124 | g124
              · obtain rfl : m = 123 := by omega
                rfl
              · obtain rfl : m = 124 := by omega
                rfl
            · rcases Nat.lt_or_ge m 126 with g126 | g126
              · obtain rfl : m = 125 := by omega
                rfl
              · obtain rfl : m = 126 := by omega
                rfl
          · rcases Nat.lt_or_ge m 129 with g129 | g129
            · rcases Nat.lt_or_ge m 128 with g128 | g128
              · obtain rfl : m = 127 := by omega
                rfl
              · obtain rfl : m = 128 := by omega
                rfl
            · rcases Nat.lt_or_ge m 130 with g130 | g130
              · obtain rfl : m = 129 := by omega
                rfl
              · rcases Nat.lt_or_ge m 131 with g131 | g131
                · obtain rfl : m = 130 := by omega
                  rfl
                · obtain rfl : m = 131 := by omega
                  rfl
        · rcases Nat.lt_or_ge m 136 with g136 | g136
          · rcases Nat.lt_or_ge m 134 with g134 | g134
            · rcases Nat.lt_or_ge m 133 with g133 | g133
              · obtain rfl : m = 132 := by omega
                rfl
              · obtain rfl : m = 133 := by omega
                rfl
            · rcases Nat.lt_or_ge m 135 with g135 | g135
              · obtain rfl : m = 134 := by omega
                rfl
              · obtain rfl : m = 135 := by omega
                rfl
          · rcases Nat.lt_or_ge m 138 with g138 | g138
            · rcases Nat.lt_or_ge m 137 with g137 | g137
              · obtain rfl : m = 136 := by omega
                rfl
              · obtain rfl : m = 137 := by omega
                rfl
            · rcases Nat.lt_or_ge m 139 with g139 | g139
              · obtain rfl : m = 138 := by omega
                rfl
              · rcases Nat.lt_or_ge m 140 with g140 | g140
                · obtain rfl : m = 139 := by omega
                  rfl
                · obtain rfl : m = 140 := by omega
                  rfl
theorem am_RRu3 {rt rs rd rl rx nt nw nf v : Nat} : am_uR (am_RR (rt, rs, rd, rl, rx, nt, nw, nf)) 46 1 v = am_RR (rt, rs, rd, v, rx, nt, nw, nf) := by
  funext m k
  rcases Nat.lt_or_ge m 141 with h | h
  · by_cases hm : m = 46
    · subst hm
      match k with
      | 0 => rfl
      | 1 => rfl
      | 2 => rfl
      | 3 => rfl
      | k + 4 => rfl
    · have hb : Nat.beq m 46 = false := by
        cases e : Nat.beq m 46
        · rfl
        · exact absurd (Nat.eq_of_beq_eq_true e) hm
      have e1 : am_uR (am_RR (rt, rs, rd, rl, rx, nt, nw, nf)) 46 1 v m k = am_RR (rt, rs, rd, rl, rx, nt, nw, nf) m k := by unfold am_uR; rw [hb]; rfl
      rw [e1]
      exact am_RRc3 hm h
  · have hb : Nat.beq m 46 = false := by
      cases e : Nat.beq m 46
      · rfl
      · have := Nat.eq_of_beq_eq_true e; omega
    have hc : Nat.ble m 139 = false := by
      cases e : Nat.ble m 139
      · rfl
      · have := Nat.le_of_ble_eq_true e; omega
    have e1 : am_uR (am_RR (rt, rs, rd, rl, rx, nt, nw, nf)) 46 1 v m k = am_RR (rt, rs, rd, rl, rx, nt, nw, nf) m k := by unfold am_uR; rw [hb]; rfl
    rw [e1]
    unfold am_RR
    rw [hc]
    rfl
set_option maxRecDepth 100000 in
theorem am_RRc4 {rt rs rd rl rx nt nw nf v m k : Nat} (hm : m ≠ 44) (h : m < 141) : am_RR (rt, rs, rd, rl, rx, nt, nw, nf) m k = am_RR (rt, rs, rd, rl, v, nt, nw, nf) m k := by
  rcases Nat.lt_or_ge m 70 with g70 | g70
  · rcases Nat.lt_or_ge m 35 with g35 | g35
    · rcases Nat.lt_or_ge m 17 with g17 | g17
      · rcases Nat.lt_or_ge m 8 with g8 | g8
        · rcases Nat.lt_or_ge m 4 with g4 | g4
          · rcases Nat.lt_or_ge m 2 with g2 | g2
            · rcases Nat.lt_or_ge m 1 with g1 | g1
              · obtain rfl : m = 0 := by omega
                rfl
              · obtain rfl : m = 1 := by omega
                rfl
            · rcases Nat.lt_or_ge m 3 with g3 | g3
              · obtain rfl : m = 2 := by omega
                rfl
              · obtain rfl : m = 3 := by omega
                rfl
          · rcases Nat.lt_or_ge m 6 with g6 | g6
            · rcases Nat.lt_or_ge m 5 with g5 | g5
              · obtain rfl : m = 4 := by omega
                rfl
              · obtain rfl : m = 5 := by omega
                rfl
            · rcases Nat.lt_or_ge m 7 with g7 | g7
              · obtain rfl : m = 6 := by omega
                rfl
              · obtain rfl : m = 7 := by omega
                rfl
        · rcases Nat.lt_or_ge m 12 with g12 | g12
          · rcases Nat.lt_or_ge m 10 with g10 | g10
            · rcases Nat.lt_or_ge m 9 with g9 | g9
              · obtain rfl : m = 8 := by omega
                rfl
              · obtain rfl : m = 9 := by omega
                rfl
            · rcases Nat.lt_or_ge m 11 with g11 | g11
              · obtain rfl : m = 10 := by omega
                rfl
              · obtain rfl : m = 11 := by omega
                rfl
          · rcases Nat.lt_or_ge m 14 with g14 | g14
            · rcases Nat.lt_or_ge m 13 with g13 | g13
              · obtain rfl : m = 12 := by omega
                rfl
              · obtain rfl : m = 13 := by omega
                rfl
            · rcases Nat.lt_or_ge m 15 with g15 | g15
              · obtain rfl : m = 14 := by omega
                rfl
              · rcases Nat.lt_or_ge m 16 with g16 | g16
                · obtain rfl : m = 15 := by omega
                  rfl
                · obtain rfl : m = 16 := by omega
                  rfl
      · rcases Nat.lt_or_ge m 26 with g26 | g26
        · rcases Nat.lt_or_ge m 21 with g21 | g21
          · rcases Nat.lt_or_ge m 19 with g19 | g19
            · rcases Nat.lt_or_ge m 18 with g18 | g18
              · obtain rfl : m = 17 := by omega
                rfl
              · obtain rfl : m = 18 := by omega
                rfl
            · rcases Nat.lt_or_ge m 20 with g20 | g20
              · obtain rfl : m = 19 := by omega
                rfl
              · obtain rfl : m = 20 := by omega
                rfl
          · rcases Nat.lt_or_ge m 23 with g23 | g23
            · rcases Nat.lt_or_ge m 22 with g22 | g22
              · obtain rfl : m = 21 := by omega
                rfl
              · obtain rfl : m = 22 := by omega
                rfl
            · rcases Nat.lt_or_ge m 24 with g24 | g24
              · obtain rfl : m = 23 := by omega
                rfl
              · rcases Nat.lt_or_ge m 25 with g25 | g25
                · obtain rfl : m = 24 := by omega
                  rfl
                · obtain rfl : m = 25 := by omega
                  rfl
        · rcases Nat.lt_or_ge m 30 with g30 | g30
          · rcases Nat.lt_or_ge m 28 with g28 | g28
            · rcases Nat.lt_or_ge m 27 with g27 | g27
              · obtain rfl : m = 26 := by omega
                rfl
              · obtain rfl : m = 27 := by omega
                rfl
            · rcases Nat.lt_or_ge m 29 with g29 | g29
              · obtain rfl : m = 28 := by omega
                rfl
              · obtain rfl : m = 29 := by omega
                rfl
          · rcases Nat.lt_or_ge m 32 with g32 | g32
            · rcases Nat.lt_or_ge m 31 with g31 | g31
              · obtain rfl : m = 30 := by omega
                rfl
              · obtain rfl : m = 31 := by omega
                rfl
            · rcases Nat.lt_or_ge m 33 with g33 | g33
              · obtain rfl : m = 32 := by omega
                rfl
              · rcases Nat.lt_or_ge m 34 with g34 | g34
                · obtain rfl : m = 33 := by omega
                  rfl
                · obtain rfl : m = 34 := by omega
                  rfl
    · rcases Nat.lt_or_ge m 52 with g52 | g52
      · rcases Nat.lt_or_ge m 43 with g43 | g43
        · rcases Nat.lt_or_ge m 39 with g39 | g39
          · rcases Nat.lt_or_ge m 37 with g37 | g37
            · rcases Nat.lt_or_ge m 36 with g36 | g36
              · obtain rfl : m = 35 := by omega
                rfl
              · obtain rfl : m = 36 := by omega
                rfl
            · rcases Nat.lt_or_ge m 38 with g38 | g38
              · obtain rfl : m = 37 := by omega
                rfl
              · obtain rfl : m = 38 := by omega
                rfl
          · rcases Nat.lt_or_ge m 41 with g41 | g41
            · rcases Nat.lt_or_ge m 40 with g40 | g40
              · obtain rfl : m = 39 := by omega
                rfl
              · obtain rfl : m = 40 := by omega
                rfl
            · rcases Nat.lt_or_ge m 42 with g42 | g42
              · obtain rfl : m = 41 := by omega
                rfl
              · obtain rfl : m = 42 := by omega
                rfl
        · rcases Nat.lt_or_ge m 47 with g47 | g47
          · rcases Nat.lt_or_ge m 45 with g45 | g45
            · rcases Nat.lt_or_ge m 44 with g44 | g44
              · obtain rfl : m = 43 := by omega
                rfl
              · exact absurd (show m = 44 by omega) hm
            · rcases Nat.lt_or_ge m 46 with g46 | g46
              · obtain rfl : m = 45 := by omega
                rfl
              · obtain rfl : m = 46 := by omega
                rfl
          · rcases Nat.lt_or_ge m 49 with g49 | g49
            · rcases Nat.lt_or_ge m 48 with g48 | g48
              · obtain rfl : m = 47 := by omega
                rfl
              · obtain rfl : m = 48 := by omega
                rfl
            · rcases Nat.lt_or_ge m 50 with g50 | g50
              · obtain rfl : m = 49 := by omega
                rfl
              · rcases Nat.lt_or_ge m 51 with g51 | g51
                · obtain rfl : m = 50 := by omega
                  rfl
                · obtain rfl : m = 51 := by omega
                  rfl
      · rcases Nat.lt_or_ge m 61 with g61 | g61
        · rcases Nat.lt_or_ge m 56 with g56 | g56
          · rcases Nat.lt_or_ge m 54 with g54 | g54
            · rcases Nat.lt_or_ge m 53 with g53 | g53
              · obtain rfl : m = 52 := by omega
                rfl
              · obtain rfl : m = 53 := by omega
                rfl
            · rcases Nat.lt_or_ge m 55 with g55 | g55
              · obtain rfl : m = 54 := by omega
                rfl
              · obtain rfl : m = 55 := by omega
                rfl
          · rcases Nat.lt_or_ge m 58 with g58 | g58
            · rcases Nat.lt_or_ge m 57 with g57 | g57
              · obtain rfl : m = 56 := by omega
                rfl
              · obtain rfl : m = 57 := by omega
                rfl
            · rcases Nat.lt_or_ge m 59 with g59 | g59
              · obtain rfl : m = 58 := by omega
                rfl
              · rcases Nat.lt_or_ge m 60 with g60 | g60
                · obtain rfl : m = 59 := by omega
                  rfl
                · obtain rfl : m = 60 := by omega
                  rfl
        · rcases Nat.lt_or_ge m 65 with g65 | g65
          · rcases Nat.lt_or_ge m 63 with g63 | g63
            · rcases Nat.lt_or_ge m 62 with g62 | g62
              · obtain rfl : m = 61 := by omega
                rfl
              · obtain rfl : m = 62 := by omega
                rfl
            · rcases Nat.lt_or_ge m 64 with g64 | g64
              · obtain rfl : m = 63 := by omega
                rfl
              · obtain rfl : m = 64 := by omega
                rfl
          · rcases Nat.lt_or_ge m 67 with g67 | g67
            · rcases Nat.lt_or_ge m 66 with g66 | g66
              · obtain rfl : m = 65 := by omega
                rfl
              · obtain rfl : m = 66 := by omega
                rfl
            · rcases Nat.lt_or_ge m 68 with g68 | g68
              · obtain rfl : m = 67 := by omega
                rfl
              · rcases Nat.lt_or_ge m 69 with g69 | g69
                · obtain rfl : m = 68 := by omega
                  rfl
                · obtain rfl : m = 69 := by omega
                  rfl
  · rcases Nat.lt_or_ge m 105 with g105 | g105
    · rcases Nat.lt_or_ge m 87 with g87 | g87
      · rcases Nat.lt_or_ge m 78 with g78 | g78
        · rcases Nat.lt_or_ge m 74 with g74 | g74
          · rcases Nat.lt_or_ge m 72 with g72 | g72
            · rcases Nat.lt_or_ge m 71 with g71 | g71
              · obtain rfl : m = 70 := by omega
                rfl
              · obtain rfl : m = 71 := by omega
                rfl
            · rcases Nat.lt_or_ge m 73 with g73 | g73
              · obtain rfl : m = 72 := by omega
                rfl
              · obtain rfl : m = 73 := by omega
                rfl
          · rcases Nat.lt_or_ge m 76 with g76 | g76
            · rcases Nat.lt_or_ge m 75 with g75 | g75
              · obtain rfl : m = 74 := by omega
                rfl
              · obtain rfl : m = 75 := by omega
                rfl
            · rcases Nat.lt_or_ge m 77 with g77 | g77
              · obtain rfl : m = 76 := by omega
                rfl
              · obtain rfl : m = 77 := by omega
                rfl
        · rcases Nat.lt_or_ge m 82 with g82 | g82
          · rcases Nat.lt_or_ge m 80 with g80 | g80
            · rcases Nat.lt_or_ge m 79 with g79 | g79
              · obtain rfl : m = 78 := by omega
                rfl
              · obtain rfl : m = 79 := by omega
                rfl
            · rcases Nat.lt_or_ge m 81 with g81 | g81
              · obtain rfl : m = 80 := by omega
                rfl
              · obtain rfl : m = 81 := by omega
                rfl
          · rcases Nat.lt_or_ge m 84 with g84 | g84
            · rcases Nat.lt_or_ge m 83 with g83 | g83
              · obtain rfl : m = 82 := by omega
                rfl
              · obtain rfl : m = 83 := by omega
                rfl
            · rcases Nat.lt_or_ge m 85 with g85 | g85
              · obtain rfl : m = 84 := by omega
                rfl
              · rcases Nat.lt_or_ge m 86 with g86 | g86
                · obtain rfl : m = 85 := by omega
                  rfl
                · obtain rfl : m = 86 := by omega
                  rfl
      · rcases Nat.lt_or_ge m 96 with g96 | g96
        · rcases Nat.lt_or_ge m 91 with g91 | g91
          · rcases Nat.lt_or_ge m 89 with g89 | g89
            · rcases Nat.lt_or_ge m 88 with g88 | g88
              · obtain rfl : m = 87 := by omega
                rfl
              · obtain rfl : m = 88 := by omega
                rfl
            · rcases Nat.lt_or_ge m 90 with g90 | g90
              · obtain rfl : m = 89 := by omega
                rfl
              · obtain rfl : m = 90 := by omega
                rfl
          · rcases Nat.lt_or_ge m 93 with g93 | g93
            · rcases Nat.lt_or_ge m 92 with g92 | g92
              · obtain rfl : m = 91 := by omega
                rfl
              · obtain rfl : m = 92 := by omega
                rfl
            · rcases Nat.lt_or_ge m 94 with g94 | g94
              · obtain rfl : m = 93 := by omega
                rfl
              · rcases Nat.lt_or_ge m 95 with g95 | g95
                · obtain rfl : m = 94 := by omega
                  rfl
                · obtain rfl : m = 95 := by omega
                  rfl
        · rcases Nat.lt_or_ge m 100 with g100 | g100
          · rcases Nat.lt_or_ge m 98 with g98 | g98
            · rcases Nat.lt_or_ge m 97 with g97 | g97
              · obtain rfl : m = 96 := by omega
                rfl
              · obtain rfl : m = 97 := by omega
                rfl
            · rcases Nat.lt_or_ge m 99 with g99 | g99
              · obtain rfl : m = 98 := by omega
                rfl
              · obtain rfl : m = 99 := by omega
                rfl
          · rcases Nat.lt_or_ge m 102 with g102 | g102
            · rcases Nat.lt_or_ge m 101 with g101 | g101
              · obtain rfl : m = 100 := by omega
                rfl
              · obtain rfl : m = 101 := by omega
                rfl
            · rcases Nat.lt_or_ge m 103 with g103 | g103
              · obtain rfl : m = 102 := by omega
                rfl
              · rcases Nat.lt_or_ge m 104 with g104 | g104
                · obtain rfl : m = 103 := by omega
                  rfl
                · obtain rfl : m = 104 := by omega
                  rfl
    · rcases Nat.lt_or_ge m 123 with g123 | g123
      · rcases Nat.lt_or_ge m 114 with g114 | g114
        · rcases Nat.lt_or_ge m 109 with g109 | g109
          · rcases Nat.lt_or_ge m 107 with g107 | g107
            · rcases Nat.lt_or_ge m 106 with g106 | g106
              · obtain rfl : m = 105 := by omega
                rfl
              · obtain rfl : m = 106 := by omega
                rfl
            · rcases Nat.lt_or_ge m 108 with g108 | g108
              · obtain rfl : m = 107 := by omega
                rfl
              · obtain rfl : m = 108 := by omega
                rfl
          · rcases Nat.lt_or_ge m 111 with g111 | g111
            · rcases Nat.lt_or_ge m 110 with g110 | g110
              · obtain rfl : m = 109 := by omega
                rfl
              · obtain rfl : m = 110 := by omega
                rfl
            · rcases Nat.lt_or_ge m 112 with g112 | g112
              · obtain rfl : m = 111 := by omega
                rfl
              · rcases Nat.lt_or_ge m 113 with g113 | g113
                · obtain rfl : m = 112 := by omega
                  rfl
                · obtain rfl : m = 113 := by omega
                  rfl
        · rcases Nat.lt_or_ge m 118 with g118 | g118
          · rcases Nat.lt_or_ge m 116 with g116 | g116
            · rcases Nat.lt_or_ge m 115 with g115 | g115
              · obtain rfl : m = 114 := by omega
                rfl
              · obtain rfl : m = 115 := by omega
                rfl
            · rcases Nat.lt_or_ge m 117 with g117 | g117
              · obtain rfl : m = 116 := by omega
                rfl
              · obtain rfl : m = 117 := by omega
                rfl
          · rcases Nat.lt_or_ge m 120 with g120 | g120
            · rcases Nat.lt_or_ge m 119 with g119 | g119
              · obtain rfl : m = 118 := by omega
                rfl
              · obtain rfl : m = 119 := by omega
                rfl
            · rcases Nat.lt_or_ge m 121 with g121 | g121
              · obtain rfl : m = 120 := by omega
                rfl
              · rcases Nat.lt_or_ge m 122 with g122 | g122
                · obtain rfl : m = 121 := by omega
                  rfl
                · obtain rfl : m = 122 := by omega
                  rfl
      · rcases Nat.lt_or_ge m 132 with g132 | g132
        · rcases Nat.lt_or_ge m 127 with g127 | g127
          · rcases Nat.lt_or_ge m 125 with g125 | g125
            · rcases Nat.lt_or_ge m 124 with g124 | g124
              · obtain rfl : m = 123 := by omega
                rfl
              · obtain rfl : m = 124 := by omega
                rfl
            · rcases Nat.lt_or_ge m 126 with g126 | g126
              · obtain rfl : m = 125 := by omega
                rfl
              · obtain rfl : m = 126 := by omega
                rfl
          · rcases Nat.lt_or_ge m 129 with g129 | g129
            · rcases Nat.lt_or_ge m 128 with g128 | g128
              · obtain rfl : m = 127 := by omega
                rfl
              · obtain rfl : m = 128 := by omega
                rfl
            · rcases Nat.lt_or_ge m 130 with g130 | g130
              · obtain rfl : m = 129 := by omega
                rfl
              · rcases Nat.lt_or_ge m 131 with g131 | g131
                · obtain rfl : m = 130 := by omega
                  rfl
                · obtain rfl : m = 131 := by omega
                  rfl
        · rcases Nat.lt_or_ge m 136 with g136 | g136
          · rcases Nat.lt_or_ge m 134 with g134 | g134
            · rcases Nat.lt_or_ge m 133 with g133 | g133
              · obtain rfl : m = 132 := by omega
                rfl
              · obtain rfl : m = 133 := by omega
                rfl
            · rcases Nat.lt_or_ge m 135 with g135 | g135
              · obtain rfl : m = 134 := by omega
                rfl
              · obtain rfl : m = 135 := by omega
                rfl
          · rcases Nat.lt_or_ge m 138 with g138 | g138
            · rcases Nat.lt_or_ge m 137 with g137 | g137
              · obtain rfl : m = 136 := by omega
                rfl
              · obtain rfl : m = 137 := by omega
                rfl
            · rcases Nat.lt_or_ge m 139 with g139 | g139
              · obtain rfl : m = 138 := by omega
                rfl
              · rcases Nat.lt_or_ge m 140 with g140 | g140
                · obtain rfl : m = 139 := by omega
                  rfl
                · obtain rfl : m = 140 := by omega
                  rfl
theorem am_RRu4 {rt rs rd rl rx nt nw nf v : Nat} : am_uR (am_RR (rt, rs, rd, rl, rx, nt, nw, nf)) 44 0 v = am_RR (rt, rs, rd, rl, v, nt, nw, nf) := by
  funext m k
  rcases Nat.lt_or_ge m 141 with h | h
  · by_cases hm : m = 44
    · subst hm
      match k with
      | 0 => rfl
      | 1 => rfl
      | 2 => rfl
      | 3 => rfl
      | k + 4 => rfl
    · have hb : Nat.beq m 44 = false := by
        cases e : Nat.beq m 44
        · rfl
        · exact absurd (Nat.eq_of_beq_eq_true e) hm
      have e1 : am_uR (am_RR (rt, rs, rd, rl, rx, nt, nw, nf)) 44 0 v m k = am_RR (rt, rs, rd, rl, rx, nt, nw, nf) m k := by unfold am_uR; rw [hb]; rfl
      rw [e1]
      exact am_RRc4 hm h
  · have hb : Nat.beq m 44 = false := by
      cases e : Nat.beq m 44
      · rfl
      · have := Nat.eq_of_beq_eq_true e; omega
    have hc : Nat.ble m 139 = false := by
      cases e : Nat.ble m 139
      · rfl
      · have := Nat.le_of_ble_eq_true e; omega
    have e1 : am_uR (am_RR (rt, rs, rd, rl, rx, nt, nw, nf)) 44 0 v m k = am_RR (rt, rs, rd, rl, rx, nt, nw, nf) m k := by unfold am_uR; rw [hb]; rfl
    rw [e1]
    unfold am_RR
    rw [hc]
    rfl
set_option maxRecDepth 100000 in
theorem am_RRc5 {rt rs rd rl rx nt nw nf v m k : Nat} (hm : m ≠ 61) (h : m < 141) : am_RR (rt, rs, rd, rl, rx, nt, nw, nf) m k = am_RR (rt, rs, rd, rl, rx, v, nw, nf) m k := by
  rcases Nat.lt_or_ge m 70 with g70 | g70
  · rcases Nat.lt_or_ge m 35 with g35 | g35
    · rcases Nat.lt_or_ge m 17 with g17 | g17
      · rcases Nat.lt_or_ge m 8 with g8 | g8
        · rcases Nat.lt_or_ge m 4 with g4 | g4
          · rcases Nat.lt_or_ge m 2 with g2 | g2
            · rcases Nat.lt_or_ge m 1 with g1 | g1
              · obtain rfl : m = 0 := by omega
                rfl
              · obtain rfl : m = 1 := by omega
                rfl
            · rcases Nat.lt_or_ge m 3 with g3 | g3
              · obtain rfl : m = 2 := by omega
                rfl
              · obtain rfl : m = 3 := by omega
                rfl
          · rcases Nat.lt_or_ge m 6 with g6 | g6
            · rcases Nat.lt_or_ge m 5 with g5 | g5
              · obtain rfl : m = 4 := by omega
                rfl
              · obtain rfl : m = 5 := by omega
                rfl
            · rcases Nat.lt_or_ge m 7 with g7 | g7
              · obtain rfl : m = 6 := by omega
                rfl
              · obtain rfl : m = 7 := by omega
                rfl
        · rcases Nat.lt_or_ge m 12 with g12 | g12
          · rcases Nat.lt_or_ge m 10 with g10 | g10
            · rcases Nat.lt_or_ge m 9 with g9 | g9
              · obtain rfl : m = 8 := by omega
                rfl
              · obtain rfl : m = 9 := by omega
                rfl
            · rcases Nat.lt_or_ge m 11 with g11 | g11
              · obtain rfl : m = 10 := by omega
                rfl
              · obtain rfl : m = 11 := by omega
                rfl
          · rcases Nat.lt_or_ge m 14 with g14 | g14
            · rcases Nat.lt_or_ge m 13 with g13 | g13
              · obtain rfl : m = 12 := by omega
                rfl
              · obtain rfl : m = 13 := by omega
                rfl
            · rcases Nat.lt_or_ge m 15 with g15 | g15
              · obtain rfl : m = 14 := by omega
                rfl
              · rcases Nat.lt_or_ge m 16 with g16 | g16
                · obtain rfl : m = 15 := by omega
                  rfl
                · obtain rfl : m = 16 := by omega
                  rfl
      · rcases Nat.lt_or_ge m 26 with g26 | g26
        · rcases Nat.lt_or_ge m 21 with g21 | g21
          · rcases Nat.lt_or_ge m 19 with g19 | g19
            · rcases Nat.lt_or_ge m 18 with g18 | g18
              · obtain rfl : m = 17 := by omega
                rfl
              · obtain rfl : m = 18 := by omega
                rfl
            · rcases Nat.lt_or_ge m 20 with g20 | g20
              · obtain rfl : m = 19 := by omega
                rfl
              · obtain rfl : m = 20 := by omega
                rfl
          · rcases Nat.lt_or_ge m 23 with g23 | g23
            · rcases Nat.lt_or_ge m 22 with g22 | g22
              · obtain rfl : m = 21 := by omega
                rfl
              · obtain rfl : m = 22 := by omega
                rfl
            · rcases Nat.lt_or_ge m 24 with g24 | g24
              · obtain rfl : m = 23 := by omega
                rfl
              · rcases Nat.lt_or_ge m 25 with g25 | g25
                · obtain rfl : m = 24 := by omega
                  rfl
                · obtain rfl : m = 25 := by omega
                  rfl
        · rcases Nat.lt_or_ge m 30 with g30 | g30
          · rcases Nat.lt_or_ge m 28 with g28 | g28
            · rcases Nat.lt_or_ge m 27 with g27 | g27
              · obtain rfl : m = 26 := by omega
                rfl
              · obtain rfl : m = 27 := by omega
                rfl
            · rcases Nat.lt_or_ge m 29 with g29 | g29
              · obtain rfl : m = 28 := by omega
                rfl
              · obtain rfl : m = 29 := by omega
                rfl
          · rcases Nat.lt_or_ge m 32 with g32 | g32
            · rcases Nat.lt_or_ge m 31 with g31 | g31
              · obtain rfl : m = 30 := by omega
                rfl
              · obtain rfl : m = 31 := by omega
                rfl
            · rcases Nat.lt_or_ge m 33 with g33 | g33
              · obtain rfl : m = 32 := by omega
                rfl
              · rcases Nat.lt_or_ge m 34 with g34 | g34
                · obtain rfl : m = 33 := by omega
                  rfl
                · obtain rfl : m = 34 := by omega
                  rfl
    · rcases Nat.lt_or_ge m 52 with g52 | g52
      · rcases Nat.lt_or_ge m 43 with g43 | g43
        · rcases Nat.lt_or_ge m 39 with g39 | g39
          · rcases Nat.lt_or_ge m 37 with g37 | g37
            · rcases Nat.lt_or_ge m 36 with g36 | g36
              · obtain rfl : m = 35 := by omega
                rfl
              · obtain rfl : m = 36 := by omega
                rfl
            · rcases Nat.lt_or_ge m 38 with g38 | g38
              · obtain rfl : m = 37 := by omega
                rfl
              · obtain rfl : m = 38 := by omega
                rfl
          · rcases Nat.lt_or_ge m 41 with g41 | g41
            · rcases Nat.lt_or_ge m 40 with g40 | g40
              · obtain rfl : m = 39 := by omega
                rfl
              · obtain rfl : m = 40 := by omega
                rfl
            · rcases Nat.lt_or_ge m 42 with g42 | g42
              · obtain rfl : m = 41 := by omega
                rfl
              · obtain rfl : m = 42 := by omega
                rfl
        · rcases Nat.lt_or_ge m 47 with g47 | g47
          · rcases Nat.lt_or_ge m 45 with g45 | g45
            · rcases Nat.lt_or_ge m 44 with g44 | g44
              · obtain rfl : m = 43 := by omega
                rfl
              · obtain rfl : m = 44 := by omega
                rfl
            · rcases Nat.lt_or_ge m 46 with g46 | g46
              · obtain rfl : m = 45 := by omega
                rfl
              · obtain rfl : m = 46 := by omega
                rfl
          · rcases Nat.lt_or_ge m 49 with g49 | g49
            · rcases Nat.lt_or_ge m 48 with g48 | g48
              · obtain rfl : m = 47 := by omega
                rfl
              · obtain rfl : m = 48 := by omega
                rfl
            · rcases Nat.lt_or_ge m 50 with g50 | g50
              · obtain rfl : m = 49 := by omega
                rfl
              · rcases Nat.lt_or_ge m 51 with g51 | g51
                · obtain rfl : m = 50 := by omega
                  rfl
                · obtain rfl : m = 51 := by omega
                  rfl
      · rcases Nat.lt_or_ge m 61 with g61 | g61
        · rcases Nat.lt_or_ge m 56 with g56 | g56
          · rcases Nat.lt_or_ge m 54 with g54 | g54
            · rcases Nat.lt_or_ge m 53 with g53 | g53
              · obtain rfl : m = 52 := by omega
                rfl
              · obtain rfl : m = 53 := by omega
                rfl
            · rcases Nat.lt_or_ge m 55 with g55 | g55
              · obtain rfl : m = 54 := by omega
                rfl
              · obtain rfl : m = 55 := by omega
                rfl
          · rcases Nat.lt_or_ge m 58 with g58 | g58
            · rcases Nat.lt_or_ge m 57 with g57 | g57
              · obtain rfl : m = 56 := by omega
                rfl
              · obtain rfl : m = 57 := by omega
                rfl
            · rcases Nat.lt_or_ge m 59 with g59 | g59
              · obtain rfl : m = 58 := by omega
                rfl
              · rcases Nat.lt_or_ge m 60 with g60 | g60
                · obtain rfl : m = 59 := by omega
                  rfl
                · obtain rfl : m = 60 := by omega
                  rfl
        · rcases Nat.lt_or_ge m 65 with g65 | g65
          · rcases Nat.lt_or_ge m 63 with g63 | g63
            · rcases Nat.lt_or_ge m 62 with g62 | g62
              · exact absurd (show m = 61 by omega) hm
              · obtain rfl : m = 62 := by omega
                rfl
            · rcases Nat.lt_or_ge m 64 with g64 | g64
              · obtain rfl : m = 63 := by omega
                rfl
              · obtain rfl : m = 64 := by omega
                rfl
          · rcases Nat.lt_or_ge m 67 with g67 | g67
            · rcases Nat.lt_or_ge m 66 with g66 | g66
              · obtain rfl : m = 65 := by omega
                rfl
              · obtain rfl : m = 66 := by omega
                rfl
            · rcases Nat.lt_or_ge m 68 with g68 | g68
              · obtain rfl : m = 67 := by omega
                rfl
              · rcases Nat.lt_or_ge m 69 with g69 | g69
                · obtain rfl : m = 68 := by omega
                  rfl
                · obtain rfl : m = 69 := by omega
                  rfl
  · rcases Nat.lt_or_ge m 105 with g105 | g105
    · rcases Nat.lt_or_ge m 87 with g87 | g87
      · rcases Nat.lt_or_ge m 78 with g78 | g78
        · rcases Nat.lt_or_ge m 74 with g74 | g74
          · rcases Nat.lt_or_ge m 72 with g72 | g72
            · rcases Nat.lt_or_ge m 71 with g71 | g71
              · obtain rfl : m = 70 := by omega
                rfl
              · obtain rfl : m = 71 := by omega
                rfl
            · rcases Nat.lt_or_ge m 73 with g73 | g73
              · obtain rfl : m = 72 := by omega
                rfl
              · obtain rfl : m = 73 := by omega
                rfl
          · rcases Nat.lt_or_ge m 76 with g76 | g76
            · rcases Nat.lt_or_ge m 75 with g75 | g75
              · obtain rfl : m = 74 := by omega
                rfl
              · obtain rfl : m = 75 := by omega
                rfl
            · rcases Nat.lt_or_ge m 77 with g77 | g77
              · obtain rfl : m = 76 := by omega
                rfl
              · obtain rfl : m = 77 := by omega
                rfl
        · rcases Nat.lt_or_ge m 82 with g82 | g82
          · rcases Nat.lt_or_ge m 80 with g80 | g80
            · rcases Nat.lt_or_ge m 79 with g79 | g79
              · obtain rfl : m = 78 := by omega
                rfl
              · obtain rfl : m = 79 := by omega
                rfl
            · rcases Nat.lt_or_ge m 81 with g81 | g81
              · obtain rfl : m = 80 := by omega
                rfl
              · obtain rfl : m = 81 := by omega
                rfl
          · rcases Nat.lt_or_ge m 84 with g84 | g84
            · rcases Nat.lt_or_ge m 83 with g83 | g83
              · obtain rfl : m = 82 := by omega
                rfl
              · obtain rfl : m = 83 := by omega
                rfl
            · rcases Nat.lt_or_ge m 85 with g85 | g85
              · obtain rfl : m = 84 := by omega
                rfl
              · rcases Nat.lt_or_ge m 86 with g86 | g86
                · obtain rfl : m = 85 := by omega
                  rfl
                · obtain rfl : m = 86 := by omega
                  rfl
      · rcases Nat.lt_or_ge m 96 with g96 | g96
        · rcases Nat.lt_or_ge m 91 with g91 | g91
          · rcases Nat.lt_or_ge m 89 with g89 | g89
            · rcases Nat.lt_or_ge m 88 with g88 | g88
              · obtain rfl : m = 87 := by omega
                rfl
              · obtain rfl : m = 88 := by omega
                rfl
            · rcases Nat.lt_or_ge m 90 with g90 | g90
              · obtain rfl : m = 89 := by omega
                rfl
              · obtain rfl : m = 90 := by omega
                rfl
          · rcases Nat.lt_or_ge m 93 with g93 | g93
            · rcases Nat.lt_or_ge m 92 with g92 | g92
              · obtain rfl : m = 91 := by omega
                rfl
              · obtain rfl : m = 92 := by omega
                rfl
            · rcases Nat.lt_or_ge m 94 with g94 | g94
              · obtain rfl : m = 93 := by omega
                rfl
              · rcases Nat.lt_or_ge m 95 with g95 | g95
                · obtain rfl : m = 94 := by omega
                  rfl
                · obtain rfl : m = 95 := by omega
                  rfl
        · rcases Nat.lt_or_ge m 100 with g100 | g100
          · rcases Nat.lt_or_ge m 98 with g98 | g98
            · rcases Nat.lt_or_ge m 97 with g97 | g97
              · obtain rfl : m = 96 := by omega
                rfl
              · obtain rfl : m = 97 := by omega
                rfl
            · rcases Nat.lt_or_ge m 99 with g99 | g99
              · obtain rfl : m = 98 := by omega
                rfl
              · obtain rfl : m = 99 := by omega
                rfl
          · rcases Nat.lt_or_ge m 102 with g102 | g102
            · rcases Nat.lt_or_ge m 101 with g101 | g101
              · obtain rfl : m = 100 := by omega
                rfl
              · obtain rfl : m = 101 := by omega
                rfl
            · rcases Nat.lt_or_ge m 103 with g103 | g103
              · obtain rfl : m = 102 := by omega
                rfl
              · rcases Nat.lt_or_ge m 104 with g104 | g104
                · obtain rfl : m = 103 := by omega
                  rfl
                · obtain rfl : m = 104 := by omega
                  rfl
    · rcases Nat.lt_or_ge m 123 with g123 | g123
      · rcases Nat.lt_or_ge m 114 with g114 | g114
        · rcases Nat.lt_or_ge m 109 with g109 | g109
          · rcases Nat.lt_or_ge m 107 with g107 | g107
            · rcases Nat.lt_or_ge m 106 with g106 | g106
              · obtain rfl : m = 105 := by omega
                rfl
              · obtain rfl : m = 106 := by omega
                rfl
            · rcases Nat.lt_or_ge m 108 with g108 | g108
              · obtain rfl : m = 107 := by omega
                rfl
              · obtain rfl : m = 108 := by omega
                rfl
          · rcases Nat.lt_or_ge m 111 with g111 | g111
            · rcases Nat.lt_or_ge m 110 with g110 | g110
              · obtain rfl : m = 109 := by omega
                rfl
              · obtain rfl : m = 110 := by omega
                rfl
            · rcases Nat.lt_or_ge m 112 with g112 | g112
              · obtain rfl : m = 111 := by omega
                rfl
              · rcases Nat.lt_or_ge m 113 with g113 | g113
                · obtain rfl : m = 112 := by omega
                  rfl
                · obtain rfl : m = 113 := by omega
                  rfl
        · rcases Nat.lt_or_ge m 118 with g118 | g118
          · rcases Nat.lt_or_ge m 116 with g116 | g116
            · rcases Nat.lt_or_ge m 115 with g115 | g115
              · obtain rfl : m = 114 := by omega
                rfl
              · obtain rfl : m = 115 := by omega
                rfl
            · rcases Nat.lt_or_ge m 117 with g117 | g117
              · obtain rfl : m = 116 := by omega
                rfl
              · obtain rfl : m = 117 := by omega
                rfl
          · rcases Nat.lt_or_ge m 120 with g120 | g120
            · rcases Nat.lt_or_ge m 119 with g119 | g119
              · obtain rfl : m = 118 := by omega
                rfl
              · obtain rfl : m = 119 := by omega
                rfl
            · rcases Nat.lt_or_ge m 121 with g121 | g121
              · obtain rfl : m = 120 := by omega
                rfl
              · rcases Nat.lt_or_ge m 122 with g122 | g122
                · obtain rfl : m = 121 := by omega
                  rfl
                · obtain rfl : m = 122 := by omega
                  rfl
      · rcases Nat.lt_or_ge m 132 with g132 | g132
        · rcases Nat.lt_or_ge m 127 with g127 | g127
          · rcases Nat.lt_or_ge m 125 with g125 | g125
            · rcases Nat.lt_or_ge m 124 with g124 | g124
              · obtain rfl : m = 123 := by omega
                rfl
              · obtain rfl : m = 124 := by omega
                rfl
            · rcases Nat.lt_or_ge m 126 with g126 | g126
              · obtain rfl : m = 125 := by omega
                rfl
              · obtain rfl : m = 126 := by omega
                rfl
          · rcases Nat.lt_or_ge m 129 with g129 | g129
            · rcases Nat.lt_or_ge m 128 with g128 | g128
              · obtain rfl : m = 127 := by omega
                rfl
              · obtain rfl : m = 128 := by omega
                rfl
            · rcases Nat.lt_or_ge m 130 with g130 | g130
              · obtain rfl : m = 129 := by omega
                rfl
              · rcases Nat.lt_or_ge m 131 with g131 | g131
                · obtain rfl : m = 130 := by omega
                  rfl
                · obtain rfl : m = 131 := by omega
                  rfl
        · rcases Nat.lt_or_ge m 136 with g136 | g136
          · rcases Nat.lt_or_ge m 134 with g134 | g134
            · rcases Nat.lt_or_ge m 133 with g133 | g133
              · obtain rfl : m = 132 := by omega
                rfl
              · obtain rfl : m = 133 := by omega
                rfl
            · rcases Nat.lt_or_ge m 135 with g135 | g135
              · obtain rfl : m = 134 := by omega
                rfl
              · obtain rfl : m = 135 := by omega
                rfl
          · rcases Nat.lt_or_ge m 138 with g138 | g138
            · rcases Nat.lt_or_ge m 137 with g137 | g137
              · obtain rfl : m = 136 := by omega
                rfl
              · obtain rfl : m = 137 := by omega
                rfl
            · rcases Nat.lt_or_ge m 139 with g139 | g139
              · obtain rfl : m = 138 := by omega
                rfl
              · rcases Nat.lt_or_ge m 140 with g140 | g140
                · obtain rfl : m = 139 := by omega
                  rfl
                · obtain rfl : m = 140 := by omega
                  rfl
theorem am_RRu5 {rt rs rd rl rx nt nw nf v : Nat} : am_uR (am_RR (rt, rs, rd, rl, rx, nt, nw, nf)) 61 1 v = am_RR (rt, rs, rd, rl, rx, v, nw, nf) := by
  funext m k
  rcases Nat.lt_or_ge m 141 with h | h
  · by_cases hm : m = 61
    · subst hm
      match k with
      | 0 => rfl
      | 1 => rfl
      | 2 => rfl
      | 3 => rfl
      | k + 4 => rfl
    · have hb : Nat.beq m 61 = false := by
        cases e : Nat.beq m 61
        · rfl
        · exact absurd (Nat.eq_of_beq_eq_true e) hm
      have e1 : am_uR (am_RR (rt, rs, rd, rl, rx, nt, nw, nf)) 61 1 v m k = am_RR (rt, rs, rd, rl, rx, nt, nw, nf) m k := by unfold am_uR; rw [hb]; rfl
      rw [e1]
      exact am_RRc5 hm h
  · have hb : Nat.beq m 61 = false := by
      cases e : Nat.beq m 61
      · rfl
      · have := Nat.eq_of_beq_eq_true e; omega
    have hc : Nat.ble m 139 = false := by
      cases e : Nat.ble m 139
      · rfl
      · have := Nat.le_of_ble_eq_true e; omega
    have e1 : am_uR (am_RR (rt, rs, rd, rl, rx, nt, nw, nf)) 61 1 v m k = am_RR (rt, rs, rd, rl, rx, nt, nw, nf) m k := by unfold am_uR; rw [hb]; rfl
    rw [e1]
    unfold am_RR
    rw [hc]
    rfl
set_option maxRecDepth 100000 in
theorem am_RRc6 {rt rs rd rl rx nt nw nf v m k : Nat} (hm : m ≠ 61) (h : m < 141) : am_RR (rt, rs, rd, rl, rx, nt, nw, nf) m k = am_RR (rt, rs, rd, rl, rx, nt, v, nf) m k := by
  rcases Nat.lt_or_ge m 70 with g70 | g70
  · rcases Nat.lt_or_ge m 35 with g35 | g35
    · rcases Nat.lt_or_ge m 17 with g17 | g17
      · rcases Nat.lt_or_ge m 8 with g8 | g8
        · rcases Nat.lt_or_ge m 4 with g4 | g4
          · rcases Nat.lt_or_ge m 2 with g2 | g2
            · rcases Nat.lt_or_ge m 1 with g1 | g1
              · obtain rfl : m = 0 := by omega
                rfl
              · obtain rfl : m = 1 := by omega
                rfl
            · rcases Nat.lt_or_ge m 3 with g3 | g3
              · obtain rfl : m = 2 := by omega
                rfl
              · obtain rfl : m = 3 := by omega
                rfl
          · rcases Nat.lt_or_ge m 6 with g6 | g6
            · rcases Nat.lt_or_ge m 5 with g5 | g5
              · obtain rfl : m = 4 := by omega
                rfl
              · obtain rfl : m = 5 := by omega
                rfl
            · rcases Nat.lt_or_ge m 7 with g7 | g7
              · obtain rfl : m = 6 := by omega
                rfl
              · obtain rfl : m = 7 := by omega
                rfl
        · rcases Nat.lt_or_ge m 12 with g12 | g12
          · rcases Nat.lt_or_ge m 10 with g10 | g10
            · rcases Nat.lt_or_ge m 9 with g9 | g9
              · obtain rfl : m = 8 := by omega
                rfl
              · obtain rfl : m = 9 := by omega
                rfl
            · rcases Nat.lt_or_ge m 11 with g11 | g11
              · obtain rfl : m = 10 := by omega
                rfl
              · obtain rfl : m = 11 := by omega
                rfl
          · rcases Nat.lt_or_ge m 14 with g14 | g14
            · rcases Nat.lt_or_ge m 13 with g13 | g13
              · obtain rfl : m = 12 := by omega
                rfl
              · obtain rfl : m = 13 := by omega
                rfl
            · rcases Nat.lt_or_ge m 15 with g15 | g15
              · obtain rfl : m = 14 := by omega
                rfl
              · rcases Nat.lt_or_ge m 16 with g16 | g16
                · obtain rfl : m = 15 := by omega
                  rfl
                · obtain rfl : m = 16 := by omega
                  rfl
      · rcases Nat.lt_or_ge m 26 with g26 | g26
        · rcases Nat.lt_or_ge m 21 with g21 | g21
          · rcases Nat.lt_or_ge m 19 with g19 | g19
            · rcases Nat.lt_or_ge m 18 with g18 | g18
              · obtain rfl : m = 17 := by omega
                rfl
              · obtain rfl : m = 18 := by omega
                rfl
            · rcases Nat.lt_or_ge m 20 with g20 | g20
              · obtain rfl : m = 19 := by omega
                rfl
              · obtain rfl : m = 20 := by omega
                rfl
          · rcases Nat.lt_or_ge m 23 with g23 | g23
            · rcases Nat.lt_or_ge m 22 with g22 | g22
              · obtain rfl : m = 21 := by omega
                rfl
              · obtain rfl : m = 22 := by omega
                rfl
            · rcases Nat.lt_or_ge m 24 with g24 | g24
              · obtain rfl : m = 23 := by omega
                rfl
              · rcases Nat.lt_or_ge m 25 with g25 | g25
                · obtain rfl : m = 24 := by omega
                  rfl
                · obtain rfl : m = 25 := by omega
                  rfl
        · rcases Nat.lt_or_ge m 30 with g30 | g30
          · rcases Nat.lt_or_ge m 28 with g28 | g28
            · rcases Nat.lt_or_ge m 27 with g27 | g27
              · obtain rfl : m = 26 := by omega
                rfl
              · obtain rfl : m = 27 := by omega
                rfl
            · rcases Nat.lt_or_ge m 29 with g29 | g29
              · obtain rfl : m = 28 := by omega
                rfl
              · obtain rfl : m = 29 := by omega
                rfl
          · rcases Nat.lt_or_ge m 32 with g32 | g32
            · rcases Nat.lt_or_ge m 31 with g31 | g31
              · obtain rfl : m = 30 := by omega
                rfl
              · obtain rfl : m = 31 := by omega
                rfl
            · rcases Nat.lt_or_ge m 33 with g33 | g33
              · obtain rfl : m = 32 := by omega
                rfl
              · rcases Nat.lt_or_ge m 34 with g34 | g34
                · obtain rfl : m = 33 := by omega
                  rfl
                · obtain rfl : m = 34 := by omega
                  rfl
    · rcases Nat.lt_or_ge m 52 with g52 | g52
      · rcases Nat.lt_or_ge m 43 with g43 | g43
        · rcases Nat.lt_or_ge m 39 with g39 | g39
          · rcases Nat.lt_or_ge m 37 with g37 | g37
            · rcases Nat.lt_or_ge m 36 with g36 | g36
              · obtain rfl : m = 35 := by omega
                rfl
              · obtain rfl : m = 36 := by omega
                rfl
            · rcases Nat.lt_or_ge m 38 with g38 | g38
              · obtain rfl : m = 37 := by omega
                rfl
              · obtain rfl : m = 38 := by omega
                rfl
          · rcases Nat.lt_or_ge m 41 with g41 | g41
            · rcases Nat.lt_or_ge m 40 with g40 | g40
              · obtain rfl : m = 39 := by omega
                rfl
              · obtain rfl : m = 40 := by omega
                rfl
            · rcases Nat.lt_or_ge m 42 with g42 | g42
              · obtain rfl : m = 41 := by omega
                rfl
              · obtain rfl : m = 42 := by omega
                rfl
        · rcases Nat.lt_or_ge m 47 with g47 | g47
          · rcases Nat.lt_or_ge m 45 with g45 | g45
            · rcases Nat.lt_or_ge m 44 with g44 | g44
              · obtain rfl : m = 43 := by omega
                rfl
              · obtain rfl : m = 44 := by omega
                rfl
            · rcases Nat.lt_or_ge m 46 with g46 | g46
              · obtain rfl : m = 45 := by omega
                rfl
              · obtain rfl : m = 46 := by omega
                rfl
          · rcases Nat.lt_or_ge m 49 with g49 | g49
            · rcases Nat.lt_or_ge m 48 with g48 | g48
              · obtain rfl : m = 47 := by omega
                rfl
              · obtain rfl : m = 48 := by omega
                rfl
            · rcases Nat.lt_or_ge m 50 with g50 | g50
              · obtain rfl : m = 49 := by omega
                rfl
              · rcases Nat.lt_or_ge m 51 with g51 | g51
                · obtain rfl : m = 50 := by omega
                  rfl
                · obtain rfl : m = 51 := by omega
                  rfl
      · rcases Nat.lt_or_ge m 61 with g61 | g61
        · rcases Nat.lt_or_ge m 56 with g56 | g56
          · rcases Nat.lt_or_ge m 54 with g54 | g54
            · rcases Nat.lt_or_ge m 53 with g53 | g53
              · obtain rfl : m = 52 := by omega
                rfl
              · obtain rfl : m = 53 := by omega
                rfl
            · rcases Nat.lt_or_ge m 55 with g55 | g55
              · obtain rfl : m = 54 := by omega
                rfl
              · obtain rfl : m = 55 := by omega
                rfl
          · rcases Nat.lt_or_ge m 58 with g58 | g58
            · rcases Nat.lt_or_ge m 57 with g57 | g57
              · obtain rfl : m = 56 := by omega
                rfl
              · obtain rfl : m = 57 := by omega
                rfl
            · rcases Nat.lt_or_ge m 59 with g59 | g59
              · obtain rfl : m = 58 := by omega
                rfl
              · rcases Nat.lt_or_ge m 60 with g60 | g60
                · obtain rfl : m = 59 := by omega
                  rfl
                · obtain rfl : m = 60 := by omega
                  rfl
        · rcases Nat.lt_or_ge m 65 with g65 | g65
          · rcases Nat.lt_or_ge m 63 with g63 | g63
            · rcases Nat.lt_or_ge m 62 with g62 | g62
              · exact absurd (show m = 61 by omega) hm
              · obtain rfl : m = 62 := by omega
                rfl
            · rcases Nat.lt_or_ge m 64 with g64 | g64
              · obtain rfl : m = 63 := by omega
                rfl
              · obtain rfl : m = 64 := by omega
                rfl
          · rcases Nat.lt_or_ge m 67 with g67 | g67
            · rcases Nat.lt_or_ge m 66 with g66 | g66
              · obtain rfl : m = 65 := by omega
                rfl
              · obtain rfl : m = 66 := by omega
                rfl
            · rcases Nat.lt_or_ge m 68 with g68 | g68
              · obtain rfl : m = 67 := by omega
                rfl
              · rcases Nat.lt_or_ge m 69 with g69 | g69
                · obtain rfl : m = 68 := by omega
                  rfl
                · obtain rfl : m = 69 := by omega
                  rfl
  · rcases Nat.lt_or_ge m 105 with g105 | g105
    · rcases Nat.lt_or_ge m 87 with g87 | g87
      · rcases Nat.lt_or_ge m 78 with g78 | g78
        · rcases Nat.lt_or_ge m 74 with g74 | g74
          · rcases Nat.lt_or_ge m 72 with g72 | g72
            · rcases Nat.lt_or_ge m 71 with g71 | g71
              · obtain rfl : m = 70 := by omega
                rfl
              · obtain rfl : m = 71 := by omega
                rfl
            · rcases Nat.lt_or_ge m 73 with g73 | g73
              · obtain rfl : m = 72 := by omega
                rfl
              · obtain rfl : m = 73 := by omega
                rfl
          · rcases Nat.lt_or_ge m 76 with g76 | g76
            · rcases Nat.lt_or_ge m 75 with g75 | g75
              · obtain rfl : m = 74 := by omega
                rfl
              · obtain rfl : m = 75 := by omega
                rfl
            · rcases Nat.lt_or_ge m 77 with g77 | g77
              · obtain rfl : m = 76 := by omega
                rfl
              · obtain rfl : m = 77 := by omega
                rfl
        · rcases Nat.lt_or_ge m 82 with g82 | g82
          · rcases Nat.lt_or_ge m 80 with g80 | g80
            · rcases Nat.lt_or_ge m 79 with g79 | g79
              · obtain rfl : m = 78 := by omega
                rfl
              · obtain rfl : m = 79 := by omega
                rfl
            · rcases Nat.lt_or_ge m 81 with g81 | g81
              · obtain rfl : m = 80 := by omega
                rfl
              · obtain rfl : m = 81 := by omega
                rfl
          · rcases Nat.lt_or_ge m 84 with g84 | g84
            · rcases Nat.lt_or_ge m 83 with g83 | g83
              · obtain rfl : m = 82 := by omega
                rfl
              · obtain rfl : m = 83 := by omega
                rfl
            · rcases Nat.lt_or_ge m 85 with g85 | g85
              · obtain rfl : m = 84 := by omega
                rfl
              · rcases Nat.lt_or_ge m 86 with g86 | g86
                · obtain rfl : m = 85 := by omega
                  rfl
                · obtain rfl : m = 86 := by omega
                  rfl
      · rcases Nat.lt_or_ge m 96 with g96 | g96
        · rcases Nat.lt_or_ge m 91 with g91 | g91
          · rcases Nat.lt_or_ge m 89 with g89 | g89
            · rcases Nat.lt_or_ge m 88 with g88 | g88
              · obtain rfl : m = 87 := by omega
                rfl
              · obtain rfl : m = 88 := by omega
                rfl
            · rcases Nat.lt_or_ge m 90 with g90 | g90
              · obtain rfl : m = 89 := by omega
                rfl
              · obtain rfl : m = 90 := by omega
                rfl
          · rcases Nat.lt_or_ge m 93 with g93 | g93
            · rcases Nat.lt_or_ge m 92 with g92 | g92
              · obtain rfl : m = 91 := by omega
                rfl
              · obtain rfl : m = 92 := by omega
                rfl
            · rcases Nat.lt_or_ge m 94 with g94 | g94
              · obtain rfl : m = 93 := by omega
                rfl
              · rcases Nat.lt_or_ge m 95 with g95 | g95
                · obtain rfl : m = 94 := by omega
                  rfl
                · obtain rfl : m = 95 := by omega
                  rfl
        · rcases Nat.lt_or_ge m 100 with g100 | g100
          · rcases Nat.lt_or_ge m 98 with g98 | g98
            · rcases Nat.lt_or_ge m 97 with g97 | g97
              · obtain rfl : m = 96 := by omega
                rfl
              · obtain rfl : m = 97 := by omega
                rfl
            · rcases Nat.lt_or_ge m 99 with g99 | g99
              · obtain rfl : m = 98 := by omega
                rfl
              · obtain rfl : m = 99 := by omega
                rfl
          · rcases Nat.lt_or_ge m 102 with g102 | g102
            · rcases Nat.lt_or_ge m 101 with g101 | g101
              · obtain rfl : m = 100 := by omega
                rfl
              · obtain rfl : m = 101 := by omega
                rfl
            · rcases Nat.lt_or_ge m 103 with g103 | g103
              · obtain rfl : m = 102 := by omega
                rfl
              · rcases Nat.lt_or_ge m 104 with g104 | g104
                · obtain rfl : m = 103 := by omega
                  rfl
                · obtain rfl : m = 104 := by omega
                  rfl
    · rcases Nat.lt_or_ge m 123 with g123 | g123
      · rcases Nat.lt_or_ge m 114 with g114 | g114
        · rcases Nat.lt_or_ge m 109 with g109 | g109
          · rcases Nat.lt_or_ge m 107 with g107 | g107
            · rcases Nat.lt_or_ge m 106 with g106 | g106
              · obtain rfl : m = 105 := by omega
                rfl
              · obtain rfl : m = 106 := by omega
                rfl
            · rcases Nat.lt_or_ge m 108 with g108 | g108
              · obtain rfl : m = 107 := by omega
                rfl
              · obtain rfl : m = 108 := by omega
                rfl
          · rcases Nat.lt_or_ge m 111 with g111 | g111
            · rcases Nat.lt_or_ge m 110 with g110 | g110
              · obtain rfl : m = 109 := by omega
                rfl
              · obtain rfl : m = 110 := by omega
                rfl
            · rcases Nat.lt_or_ge m 112 with g112 | g112
              · obtain rfl : m = 111 := by omega
                rfl
              · rcases Nat.lt_or_ge m 113 with g113 | g113
                · obtain rfl : m = 112 := by omega
                  rfl
                · obtain rfl : m = 113 := by omega
                  rfl
        · rcases Nat.lt_or_ge m 118 with g118 | g118
          · rcases Nat.lt_or_ge m 116 with g116 | g116
            · rcases Nat.lt_or_ge m 115 with g115 | g115
              · obtain rfl : m = 114 := by omega
                rfl
              · obtain rfl : m = 115 := by omega
                rfl
            · rcases Nat.lt_or_ge m 117 with g117 | g117
              · obtain rfl : m = 116 := by omega
                rfl
              · obtain rfl : m = 117 := by omega
                rfl
          · rcases Nat.lt_or_ge m 120 with g120 | g120
            · rcases Nat.lt_or_ge m 119 with g119 | g119
              · obtain rfl : m = 118 := by omega
                rfl
              · obtain rfl : m = 119 := by omega
                rfl
            · rcases Nat.lt_or_ge m 121 with g121 | g121
              · obtain rfl : m = 120 := by omega
                rfl
              · rcases Nat.lt_or_ge m 122 with g122 | g122
                · obtain rfl : m = 121 := by omega
                  rfl
                · obtain rfl : m = 122 := by omega
                  rfl
      · rcases Nat.lt_or_ge m 132 with g132 | g132
        · rcases Nat.lt_or_ge m 127 with g127 | g127
          · rcases Nat.lt_or_ge m 125 with g125 | g125
            · rcases Nat.lt_or_ge m 124 with g124 | g124
              · obtain rfl : m = 123 := by omega
                rfl
              · obtain rfl : m = 124 := by omega
                rfl
            · rcases Nat.lt_or_ge m 126 with g126 | g126
              · obtain rfl : m = 125 := by omega
                rfl
              · obtain rfl : m = 126 := by omega
                rfl
          · rcases Nat.lt_or_ge m 129 with g129 | g129
            · rcases Nat.lt_or_ge m 128 with g128 | g128
              · obtain rfl : m = 127 := by omega
                rfl
              · obtain rfl : m = 128 := by omega
                rfl
            · rcases Nat.lt_or_ge m 130 with g130 | g130
              · obtain rfl : m = 129 := by omega
                rfl
              · rcases Nat.lt_or_ge m 131 with g131 | g131
                · obtain rfl : m = 130 := by omega
                  rfl
                · obtain rfl : m = 131 := by omega
                  rfl
        · rcases Nat.lt_or_ge m 136 with g136 | g136
          · rcases Nat.lt_or_ge m 134 with g134 | g134
            · rcases Nat.lt_or_ge m 133 with g133 | g133
              · obtain rfl : m = 132 := by omega
                rfl
              · obtain rfl : m = 133 := by omega
                rfl
            · rcases Nat.lt_or_ge m 135 with g135 | g135
              · obtain rfl : m = 134 := by omega
                rfl
              · obtain rfl : m = 135 := by omega
                rfl
          · rcases Nat.lt_or_ge m 138 with g138 | g138
            · rcases Nat.lt_or_ge m 137 with g137 | g137
              · obtain rfl : m = 136 := by omega
                rfl
              · obtain rfl : m = 137 := by omega
                rfl
            · rcases Nat.lt_or_ge m 139 with g139 | g139
              · obtain rfl : m = 138 := by omega
                rfl
              · rcases Nat.lt_or_ge m 140 with g140 | g140
                · obtain rfl : m = 139 := by omega
                  rfl
                · obtain rfl : m = 140 := by omega
                  rfl
theorem am_RRu6 {rt rs rd rl rx nt nw nf v : Nat} : am_uR (am_RR (rt, rs, rd, rl, rx, nt, nw, nf)) 61 2 v = am_RR (rt, rs, rd, rl, rx, nt, v, nf) := by
  funext m k
  rcases Nat.lt_or_ge m 141 with h | h
  · by_cases hm : m = 61
    · subst hm
      match k with
      | 0 => rfl
      | 1 => rfl
      | 2 => rfl
      | 3 => rfl
      | k + 4 => rfl
    · have hb : Nat.beq m 61 = false := by
        cases e : Nat.beq m 61
        · rfl
        · exact absurd (Nat.eq_of_beq_eq_true e) hm
      have e1 : am_uR (am_RR (rt, rs, rd, rl, rx, nt, nw, nf)) 61 2 v m k = am_RR (rt, rs, rd, rl, rx, nt, nw, nf) m k := by unfold am_uR; rw [hb]; rfl
      rw [e1]
      exact am_RRc6 hm h
  · have hb : Nat.beq m 61 = false := by
      cases e : Nat.beq m 61
      · rfl
      · have := Nat.eq_of_beq_eq_true e; omega
    have hc : Nat.ble m 139 = false := by
      cases e : Nat.ble m 139
      · rfl
      · have := Nat.le_of_ble_eq_true e; omega
    have e1 : am_uR (am_RR (rt, rs, rd, rl, rx, nt, nw, nf)) 61 2 v m k = am_RR (rt, rs, rd, rl, rx, nt, nw, nf) m k := by unfold am_uR; rw [hb]; rfl
    rw [e1]
    unfold am_RR
    rw [hc]
    rfl
set_option maxRecDepth 100000 in
theorem am_RRc7 {rt rs rd rl rx nt nw nf v m k : Nat} (hm : m ≠ 61) (h : m < 141) : am_RR (rt, rs, rd, rl, rx, nt, nw, nf) m k = am_RR (rt, rs, rd, rl, rx, nt, nw, v) m k := by
  rcases Nat.lt_or_ge m 70 with g70 | g70
  · rcases Nat.lt_or_ge m 35 with g35 | g35
    · rcases Nat.lt_or_ge m 17 with g17 | g17
      · rcases Nat.lt_or_ge m 8 with g8 | g8
        · rcases Nat.lt_or_ge m 4 with g4 | g4
          · rcases Nat.lt_or_ge m 2 with g2 | g2
            · rcases Nat.lt_or_ge m 1 with g1 | g1
              · obtain rfl : m = 0 := by omega
                rfl
              · obtain rfl : m = 1 := by omega
                rfl
            · rcases Nat.lt_or_ge m 3 with g3 | g3
              · obtain rfl : m = 2 := by omega
                rfl
              · obtain rfl : m = 3 := by omega
                rfl
          · rcases Nat.lt_or_ge m 6 with g6 | g6
            · rcases Nat.lt_or_ge m 5 with g5 | g5
              · obtain rfl : m = 4 := by omega
                rfl
              · obtain rfl : m = 5 := by omega
                rfl
            · rcases Nat.lt_or_ge m 7 with g7 | g7
              · obtain rfl : m = 6 := by omega
                rfl
              · obtain rfl : m = 7 := by omega
                rfl
        · rcases Nat.lt_or_ge m 12 with g12 | g12
          · rcases Nat.lt_or_ge m 10 with g10 | g10
            · rcases Nat.lt_or_ge m 9 with g9 | g9
              · obtain rfl : m = 8 := by omega
                rfl
              · obtain rfl : m = 9 := by omega
                rfl
            · rcases Nat.lt_or_ge m 11 with g11 | g11
              · obtain rfl : m = 10 := by omega
                rfl
              · obtain rfl : m = 11 := by omega
                rfl
          · rcases Nat.lt_or_ge m 14 with g14 | g14
            · rcases Nat.lt_or_ge m 13 with g13 | g13
              · obtain rfl : m = 12 := by omega
                rfl
              · obtain rfl : m = 13 := by omega
                rfl
            · rcases Nat.lt_or_ge m 15 with g15 | g15
              · obtain rfl : m = 14 := by omega
                rfl
              · rcases Nat.lt_or_ge m 16 with g16 | g16
                · obtain rfl : m = 15 := by omega
                  rfl
                · obtain rfl : m = 16 := by omega
                  rfl
      · rcases Nat.lt_or_ge m 26 with g26 | g26
        · rcases Nat.lt_or_ge m 21 with g21 | g21
          · rcases Nat.lt_or_ge m 19 with g19 | g19
            · rcases Nat.lt_or_ge m 18 with g18 | g18
              · obtain rfl : m = 17 := by omega
                rfl
              · obtain rfl : m = 18 := by omega
                rfl
            · rcases Nat.lt_or_ge m 20 with g20 | g20
              · obtain rfl : m = 19 := by omega
                rfl
              · obtain rfl : m = 20 := by omega
                rfl
          · rcases Nat.lt_or_ge m 23 with g23 | g23
            · rcases Nat.lt_or_ge m 22 with g22 | g22
              · obtain rfl : m = 21 := by omega
                rfl
              · obtain rfl : m = 22 := by omega
                rfl
            · rcases Nat.lt_or_ge m 24 with g24 | g24
              · obtain rfl : m = 23 := by omega
                rfl
              · rcases Nat.lt_or_ge m 25 with g25 | g25
                · obtain rfl : m = 24 := by omega
                  rfl
                · obtain rfl : m = 25 := by omega
                  rfl
        · rcases Nat.lt_or_ge m 30 with g30 | g30
          · rcases Nat.lt_or_ge m 28 with g28 | g28
            · rcases Nat.lt_or_ge m 27 with g27 | g27
              · obtain rfl : m = 26 := by omega
                rfl
              · obtain rfl : m = 27 := by omega
                rfl
            · rcases Nat.lt_or_ge m 29 with g29 | g29
              · obtain rfl : m = 28 := by omega
                rfl
              · obtain rfl : m = 29 := by omega
                rfl
          · rcases Nat.lt_or_ge m 32 with g32 | g32
            · rcases Nat.lt_or_ge m 31 with g31 | g31
              · obtain rfl : m = 30 := by omega
                rfl
              · obtain rfl : m = 31 := by omega
                rfl
            · rcases Nat.lt_or_ge m 33 with g33 | g33
              · obtain rfl : m = 32 := by omega
                rfl
              · rcases Nat.lt_or_ge m 34 with g34 | g34
                · obtain rfl : m = 33 := by omega
                  rfl
                · obtain rfl : m = 34 := by omega
                  rfl
    · rcases Nat.lt_or_ge m 52 with g52 | g52
      · rcases Nat.lt_or_ge m 43 with g43 | g43
        · rcases Nat.lt_or_ge m 39 with g39 | g39
          · rcases Nat.lt_or_ge m 37 with g37 | g37
            · rcases Nat.lt_or_ge m 36 with g36 | g36
              · obtain rfl : m = 35 := by omega
                rfl
              · obtain rfl : m = 36 := by omega
                rfl
            · rcases Nat.lt_or_ge m 38 with g38 | g38
              · obtain rfl : m = 37 := by omega
                rfl
              · obtain rfl : m = 38 := by omega
                rfl
          · rcases Nat.lt_or_ge m 41 with g41 | g41
            · rcases Nat.lt_or_ge m 40 with g40 | g40
              · obtain rfl : m = 39 := by omega
                rfl
              · obtain rfl : m = 40 := by omega
                rfl
            · rcases Nat.lt_or_ge m 42 with g42 | g42
              · obtain rfl : m = 41 := by omega
                rfl
              · obtain rfl : m = 42 := by omega
                rfl
        · rcases Nat.lt_or_ge m 47 with g47 | g47
          · rcases Nat.lt_or_ge m 45 with g45 | g45
            · rcases Nat.lt_or_ge m 44 with g44 | g44
              · obtain rfl : m = 43 := by omega
                rfl
              · obtain rfl : m = 44 := by omega
                rfl
            · rcases Nat.lt_or_ge m 46 with g46 | g46
              · obtain rfl : m = 45 := by omega
                rfl
              · obtain rfl : m = 46 := by omega
                rfl
          · rcases Nat.lt_or_ge m 49 with g49 | g49
            · rcases Nat.lt_or_ge m 48 with g48 | g48
              · obtain rfl : m = 47 := by omega
                rfl
              · obtain rfl : m = 48 := by omega
                rfl
            · rcases Nat.lt_or_ge m 50 with g50 | g50
              · obtain rfl : m = 49 := by omega
                rfl
              · rcases Nat.lt_or_ge m 51 with g51 | g51
                · obtain rfl : m = 50 := by omega
                  rfl
                · obtain rfl : m = 51 := by omega
                  rfl
      · rcases Nat.lt_or_ge m 61 with g61 | g61
        · rcases Nat.lt_or_ge m 56 with g56 | g56
          · rcases Nat.lt_or_ge m 54 with g54 | g54
            · rcases Nat.lt_or_ge m 53 with g53 | g53
              · obtain rfl : m = 52 := by omega
                rfl
              · obtain rfl : m = 53 := by omega
                rfl
            · rcases Nat.lt_or_ge m 55 with g55 | g55
              · obtain rfl : m = 54 := by omega
                rfl
              · obtain rfl : m = 55 := by omega
                rfl
          · rcases Nat.lt_or_ge m 58 with g58 | g58
            · rcases Nat.lt_or_ge m 57 with g57 | g57
              · obtain rfl : m = 56 := by omega
                rfl
              · obtain rfl : m = 57 := by omega
                rfl
            · rcases Nat.lt_or_ge m 59 with g59 | g59
              · obtain rfl : m = 58 := by omega
                rfl
              · rcases Nat.lt_or_ge m 60 with g60 | g60
                · obtain rfl : m = 59 := by omega
                  rfl
                · obtain rfl : m = 60 := by omega
                  rfl
        · rcases Nat.lt_or_ge m 65 with g65 | g65
          · rcases Nat.lt_or_ge m 63 with g63 | g63
            · rcases Nat.lt_or_ge m 62 with g62 | g62
              · exact absurd (show m = 61 by omega) hm
              · obtain rfl : m = 62 := by omega
                rfl
            · rcases Nat.lt_or_ge m 64 with g64 | g64
              · obtain rfl : m = 63 := by omega
                rfl
              · obtain rfl : m = 64 := by omega
                rfl
          · rcases Nat.lt_or_ge m 67 with g67 | g67
            · rcases Nat.lt_or_ge m 66 with g66 | g66
              · obtain rfl : m = 65 := by omega
                rfl
              · obtain rfl : m = 66 := by omega
                rfl
            · rcases Nat.lt_or_ge m 68 with g68 | g68
              · obtain rfl : m = 67 := by omega
                rfl
              · rcases Nat.lt_or_ge m 69 with g69 | g69
                · obtain rfl : m = 68 := by omega
                  rfl
                · obtain rfl : m = 69 := by omega
                  rfl
  · rcases Nat.lt_or_ge m 105 with g105 | g105
    · rcases Nat.lt_or_ge m 87 with g87 | g87
      · rcases Nat.lt_or_ge m 78 with g78 | g78
        · rcases Nat.lt_or_ge m 74 with g74 | g74
          · rcases Nat.lt_or_ge m 72 with g72 | g72
            · rcases Nat.lt_or_ge m 71 with g71 | g71
              · obtain rfl : m = 70 := by omega
                rfl
              · obtain rfl : m = 71 := by omega
                rfl
            · rcases Nat.lt_or_ge m 73 with g73 | g73
              · obtain rfl : m = 72 := by omega
                rfl
              · obtain rfl : m = 73 := by omega
                rfl
          · rcases Nat.lt_or_ge m 76 with g76 | g76
            · rcases Nat.lt_or_ge m 75 with g75 | g75
              · obtain rfl : m = 74 := by omega
                rfl
              · obtain rfl : m = 75 := by omega
                rfl
            · rcases Nat.lt_or_ge m 77 with g77 | g77
              · obtain rfl : m = 76 := by omega
                rfl
              · obtain rfl : m = 77 := by omega
                rfl
        · rcases Nat.lt_or_ge m 82 with g82 | g82
          · rcases Nat.lt_or_ge m 80 with g80 | g80
            · rcases Nat.lt_or_ge m 79 with g79 | g79
              · obtain rfl : m = 78 := by omega
                rfl
              · obtain rfl : m = 79 := by omega
                rfl
            · rcases Nat.lt_or_ge m 81 with g81 | g81
              · obtain rfl : m = 80 := by omega
                rfl
              · obtain rfl : m = 81 := by omega
                rfl
          · rcases Nat.lt_or_ge m 84 with g84 | g84
            · rcases Nat.lt_or_ge m 83 with g83 | g83
              · obtain rfl : m = 82 := by omega
                rfl
              · obtain rfl : m = 83 := by omega
                rfl
            · rcases Nat.lt_or_ge m 85 with g85 | g85
              · obtain rfl : m = 84 := by omega
                rfl
              · rcases Nat.lt_or_ge m 86 with g86 | g86
                · obtain rfl : m = 85 := by omega
                  rfl
                · obtain rfl : m = 86 := by omega
                  rfl
      · rcases Nat.lt_or_ge m 96 with g96 | g96
        · rcases Nat.lt_or_ge m 91 with g91 | g91
          · rcases Nat.lt_or_ge m 89 with g89 | g89
            · rcases Nat.lt_or_ge m 88 with g88 | g88
              · obtain rfl : m = 87 := by omega
                rfl
              · obtain rfl : m = 88 := by omega
                rfl
            · rcases Nat.lt_or_ge m 90 with g90 | g90
              · obtain rfl : m = 89 := by omega
                rfl
              · obtain rfl : m = 90 := by omega
                rfl
          · rcases Nat.lt_or_ge m 93 with g93 | g93
            · rcases Nat.lt_or_ge m 92 with g92 | g92
              · obtain rfl : m = 91 := by omega
                rfl
              · obtain rfl : m = 92 := by omega
                rfl
            · rcases Nat.lt_or_ge m 94 with g94 | g94
              · obtain rfl : m = 93 := by omega
                rfl
              · rcases Nat.lt_or_ge m 95 with g95 | g95
                · obtain rfl : m = 94 := by omega
                  rfl
                · obtain rfl : m = 95 := by omega
                  rfl
        · rcases Nat.lt_or_ge m 100 with g100 | g100
          · rcases Nat.lt_or_ge m 98 with g98 | g98
            · rcases Nat.lt_or_ge m 97 with g97 | g97
              · obtain rfl : m = 96 := by omega
                rfl
              · obtain rfl : m = 97 := by omega
                rfl
            · rcases Nat.lt_or_ge m 99 with g99 | g99
              · obtain rfl : m = 98 := by omega
                rfl
              · obtain rfl : m = 99 := by omega
                rfl
          · rcases Nat.lt_or_ge m 102 with g102 | g102
            · rcases Nat.lt_or_ge m 101 with g101 | g101
              · obtain rfl : m = 100 := by omega
                rfl
              · obtain rfl : m = 101 := by omega
                rfl
            · rcases Nat.lt_or_ge m 103 with g103 | g103
              · obtain rfl : m = 102 := by omega
                rfl
              · rcases Nat.lt_or_ge m 104 with g104 | g104
                · obtain rfl : m = 103 := by omega
                  rfl
                · obtain rfl : m = 104 := by omega
                  rfl
    · rcases Nat.lt_or_ge m 123 with g123 | g123
      · rcases Nat.lt_or_ge m 114 with g114 | g114
        · rcases Nat.lt_or_ge m 109 with g109 | g109
          · rcases Nat.lt_or_ge m 107 with g107 | g107
            · rcases Nat.lt_or_ge m 106 with g106 | g106
              · obtain rfl : m = 105 := by omega
                rfl
              · obtain rfl : m = 106 := by omega
                rfl
            · rcases Nat.lt_or_ge m 108 with g108 | g108
              · obtain rfl : m = 107 := by omega
                rfl
              · obtain rfl : m = 108 := by omega
                rfl
          · rcases Nat.lt_or_ge m 111 with g111 | g111
            · rcases Nat.lt_or_ge m 110 with g110 | g110
              · obtain rfl : m = 109 := by omega
                rfl
              · obtain rfl : m = 110 := by omega
                rfl
            · rcases Nat.lt_or_ge m 112 with g112 | g112
              · obtain rfl : m = 111 := by omega
                rfl
              · rcases Nat.lt_or_ge m 113 with g113 | g113
                · obtain rfl : m = 112 := by omega
                  rfl
                · obtain rfl : m = 113 := by omega
                  rfl
        · rcases Nat.lt_or_ge m 118 with g118 | g118
          · rcases Nat.lt_or_ge m 116 with g116 | g116
            · rcases Nat.lt_or_ge m 115 with g115 | g115
              · obtain rfl : m = 114 := by omega
                rfl
              · obtain rfl : m = 115 := by omega
                rfl
            · rcases Nat.lt_or_ge m 117 with g117 | g117
              · obtain rfl : m = 116 := by omega
                rfl
              · obtain rfl : m = 117 := by omega
                rfl
          · rcases Nat.lt_or_ge m 120 with g120 | g120
            · rcases Nat.lt_or_ge m 119 with g119 | g119
              · obtain rfl : m = 118 := by omega
                rfl
              · obtain rfl : m = 119 := by omega
                rfl
            · rcases Nat.lt_or_ge m 121 with g121 | g121
              · obtain rfl : m = 120 := by omega
                rfl
              · rcases Nat.lt_or_ge m 122 with g122 | g122
                · obtain rfl : m = 121 := by omega
                  rfl
                · obtain rfl : m = 122 := by omega
                  rfl
      · rcases Nat.lt_or_ge m 132 with g132 | g132
        · rcases Nat.lt_or_ge m 127 with g127 | g127
          · rcases Nat.lt_or_ge m 125 with g125 | g125
            · rcases Nat.lt_or_ge m 124 with g124 | g124
              · obtain rfl : m = 123 := by omega
                rfl
              · obtain rfl : m = 124 := by omega
                rfl
            · rcases Nat.lt_or_ge m 126 with g126 | g126
              · obtain rfl : m = 125 := by omega
                rfl
              · obtain rfl : m = 126 := by omega
                rfl
          · rcases Nat.lt_or_ge m 129 with g129 | g129
            · rcases Nat.lt_or_ge m 128 with g128 | g128
              · obtain rfl : m = 127 := by omega
                rfl
              · obtain rfl : m = 128 := by omega
                rfl
            · rcases Nat.lt_or_ge m 130 with g130 | g130
              · obtain rfl : m = 129 := by omega
                rfl
              · rcases Nat.lt_or_ge m 131 with g131 | g131
                · obtain rfl : m = 130 := by omega
                  rfl
                · obtain rfl : m = 131 := by omega
                  rfl
        · rcases Nat.lt_or_ge m 136 with g136 | g136
          · rcases Nat.lt_or_ge m 134 with g134 | g134
            · rcases Nat.lt_or_ge m 133 with g133 | g133
              · obtain rfl : m = 132 := by omega
                rfl
              · obtain rfl : m = 133 := by omega
                rfl
            · rcases Nat.lt_or_ge m 135 with g135 | g135
              · obtain rfl : m = 134 := by omega
                rfl
              · obtain rfl : m = 135 := by omega
                rfl
          · rcases Nat.lt_or_ge m 138 with g138 | g138
            · rcases Nat.lt_or_ge m 137 with g137 | g137
              · obtain rfl : m = 136 := by omega
                rfl
              · obtain rfl : m = 137 := by omega
                rfl
            · rcases Nat.lt_or_ge m 139 with g139 | g139
              · obtain rfl : m = 138 := by omega
                rfl
              · rcases Nat.lt_or_ge m 140 with g140 | g140
                · obtain rfl : m = 139 := by omega
                  rfl
                · obtain rfl : m = 140 := by omega
                  rfl
theorem am_RRu7 {rt rs rd rl rx nt nw nf v : Nat} : am_uR (am_RR (rt, rs, rd, rl, rx, nt, nw, nf)) 61 3 v = am_RR (rt, rs, rd, rl, rx, nt, nw, v) := by
  funext m k
  rcases Nat.lt_or_ge m 141 with h | h
  · by_cases hm : m = 61
    · subst hm
      match k with
      | 0 => rfl
      | 1 => rfl
      | 2 => rfl
      | 3 => rfl
      | k + 4 => rfl
    · have hb : Nat.beq m 61 = false := by
        cases e : Nat.beq m 61
        · rfl
        · exact absurd (Nat.eq_of_beq_eq_true e) hm
      have e1 : am_uR (am_RR (rt, rs, rd, rl, rx, nt, nw, nf)) 61 3 v m k = am_RR (rt, rs, rd, rl, rx, nt, nw, nf) m k := by unfold am_uR; rw [hb]; rfl
      rw [e1]
      exact am_RRc7 hm h
  · have hb : Nat.beq m 61 = false := by
      cases e : Nat.beq m 61
      · rfl
      · have := Nat.eq_of_beq_eq_true e; omega
    have hc : Nat.ble m 139 = false := by
      cases e : Nat.ble m 139
      · rfl
      · have := Nat.le_of_ble_eq_true e; omega
    have e1 : am_uR (am_RR (rt, rs, rd, rl, rx, nt, nw, nf)) 61 3 v m k = am_RR (rt, rs, rd, rl, rx, nt, nw, nf) m k := by unfold am_uR; rw [hb]; rfl
    rw [e1]
    unfold am_RR
    rw [hc]
    rfl
