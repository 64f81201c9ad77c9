/-! ===== the constructors, at the heaps at which the law calls them (by program) ===== -/
/-- kinds while the first k cells are made -/
def am_Ts (N : Nat) : Nat → Nat → Nat × Nat
  | 0 => fun m => bif Nat.ble m 140 then (0, 0) else am_TT N m
  | k + 1 => am_uT (am_Ts N k) (k + 1) (am_TT N (k + 1))
def am_RR0 (m k : Nat) : Nat := bif Nat.ble m 140 then 0 else am_RR (0, 0, 0, 0, 0, 0, 0, 0) m k
def am_Rc0 : Nat → Nat → Nat := am_RR0
def am_Rc1 : Nat → Nat → Nat := (am_zR am_Rc0 1)
def am_Rc2 : Nat → Nat → Nat := (am_zR (am_uR (am_zR am_Rc1 2) 1 0 2) 3)
def am_Rc3 : Nat → Nat → Nat := (am_zR (am_uR (am_zR (am_uR (am_zR (am_uR (am_zR (am_uR (am_zR (am_uR (am_zR (am_uR (am_zR (am_uR (am_zR (am_uR (am_zR (am_uR (am_zR (am_uR (am_zR (am_uR (am_zR (am_uR (am_zR (am_uR (am_zR (am_uR (am_zR am_Rc2 4) 3 7 4) 5) 3 8 5) 6) 3 9 6) 7) 3 10 7) 8) 3 11 8) 9) 3 12 9) 10) 3 13 10) 11) 3 14 11) 12) 3 15 12) 13) 3 16 13) 14) 3 17 14) 15) 3 18 15) 16) 3 19 16) 17) 3 20 17) 18)
def am_Rc4 : Nat → Nat → Nat := (am_uR (am_zR (am_uR (am_zR (am_uR (am_zR (am_uR (am_zR am_Rc3 19) 18 2 19) 20) 18 3 20) 21) 18 4 21) 22) 18 5 22)
def am_Rc5 : Nat → Nat → Nat := (am_uR am_Rc4 3 21 18)
def am_Rc6 : Nat → Nat → Nat := (am_zR (am_uR am_Rc5 1 2 3) 23)
def am_Rc7 : Nat → Nat → Nat := (am_zR (am_uR (am_zR (am_uR (am_zR (am_uR (am_zR (am_uR (am_zR (am_uR (am_zR (am_uR (am_zR (am_uR (am_zR (am_uR (am_zR (am_uR (am_zR (am_uR (am_zR (am_uR (am_zR (am_uR (am_zR (am_uR (am_zR (am_uR (am_zR am_Rc6 24) 23 7 24) 25) 23 8 25) 26) 23 9 26) 27) 23 10 27) 28) 23 11 28) 29) 23 12 29) 30) 23 13 30) 31) 23 14 31) 32) 23 15 32) 33) 23 16 33) 34) 23 17 34) 35) 23 18 35) 36) 23 19 36) 37) 23 20 37) 38)
def am_Rc8 : Nat → Nat → Nat := (am_uR (am_zR (am_uR (am_zR (am_uR (am_zR (am_uR (am_zR am_Rc7 39) 38 2 39) 40) 38 3 40) 41) 38 4 41) 42) 38 5 42)
def am_Rc9 : Nat → Nat → Nat := (am_uR am_Rc8 23 21 38)
def am_Rc10 : Nat → Nat → Nat := (am_zR (am_uR am_Rc9 1 3 23) 43)
def am_Rc11 : Nat → Nat → Nat := (am_zR am_Rc10 44)
def am_Rc12 : Nat → Nat → Nat := (am_uR (am_zR am_Rc11 45) 44 0 45)
def am_Rc13 : Nat → Nat → Nat := (am_zR (am_uR (am_uR am_Rc12 43 0 44) 43 2 23) 46)
def am_Rc14 : Nat → Nat → Nat := (am_uR (am_uR (am_uR (am_zR (am_uR (am_zR am_Rc13 47) 46 3 47) 48) 46 5 48) 46 0 44) 46 1 38)
def am_Rc15 : Nat → Nat → Nat := (am_uR am_Rc14 43 1 46)
def am_Rc16 : Nat → Nat → Nat := (am_zR (am_uR am_Rc15 1 4 43) 49)
def am_Rc17 : Nat → Nat → Nat := (am_uR (am_zR (am_uR (am_zR (am_uR (am_zR (am_uR (am_zR (am_uR (am_zR am_Rc16 50) 49 6 50) 51) 49 7 51) 52) 49 8 52) 53) 49 9 53) 54) 49 10 54)
def am_Rc18 : Nat → Nat → Nat := (am_zR (am_uR am_Rc17 1 5 49) 55)
def am_Rc19 : Nat → Nat → Nat := (am_uR (am_zR (am_uR (am_zR (am_uR (am_zR (am_uR (am_zR (am_uR (am_zR am_Rc18 56) 55 6 56) 57) 55 7 57) 58) 55 8 58) 59) 55 9 59) 60) 55 10 60)
def am_Rc20 : Nat → Nat → Nat := (am_zR (am_uR am_Rc19 1 6 55) 61)
def am_Rc21 : Nat → Nat → Nat := (am_zR am_Rc20 62)
def am_Rc22 : Nat → Nat → Nat := (am_uR (am_zR (am_uR (am_zR (am_uR (am_zR am_Rc21 63) 62 0 63) 64) 62 1 64) 65) 62 2 65)
def am_Rc23 : Nat → Nat → Nat := (am_uR (am_uR (am_uR (am_uR (am_zR (am_uR (am_zR (am_uR (am_zR (am_uR (am_zR (am_uR (am_zR (am_uR (am_zR (am_uR am_Rc22 61 0 62) 66) 61 4 66) 67) 61 5 67) 68) 61 6 68) 69) 61 7 69) 70) 61 8 70) 71) 61 9 71) 61 1 3) 61 2 7) 61 3 8)
def am_Rc24 : Nat → Nat → Nat := (am_zR (am_uR am_Rc23 1 8 61) 72)
def am_Rc25 : Nat → Nat → Nat := (am_uR (am_zR (am_uR (am_zR (am_uR (am_zR (am_uR (am_zR am_Rc24 73) 72 2 73) 74) 72 3 74) 75) 72 4 75) 76) 72 5 76)
def am_Rc26 : Nat → Nat → Nat := (am_zR (am_uR am_Rc25 1 9 72) 77)
def am_Rc27 : Nat → Nat → Nat := (am_uR (am_zR (am_uR (am_zR (am_uR (am_zR am_Rc26 78) 77 1 78) 79) 77 2 79) 80) 77 3 80)
def am_Rc28 : Nat → Nat → Nat := (am_zR (am_uR am_Rc27 1 10 77) 81)
def am_Rc29 : Nat → Nat → Nat := (am_zR am_Rc28 82)
def am_Rc30 : Nat → Nat → Nat := (am_uR (am_zR (am_uR (am_zR (am_uR (am_zR (am_uR (am_zR (am_uR (am_zR am_Rc29 83) 82 6 83) 84) 82 7 84) 85) 82 8 85) 86) 82 9 86) 87) 82 10 87)
def am_Rc31 : Nat → Nat → Nat := (am_uR (am_uR (am_uR (am_uR (am_zR (am_uR (am_zR (am_uR (am_zR (am_uR (am_zR (am_uR (am_zR (am_uR am_Rc30 81 1 82) 88) 81 4 88) 89) 81 5 89) 90) 81 6 90) 91) 81 7 91) 92) 81 8 92) 81 0 49) 81 2 61) 81 3 72)
def am_Rc32 : Nat → Nat → Nat := (am_uR am_Rc31 1 11 81)
def am_Rc33 : Nat → Nat → Nat := (am_zR am_Rc32 93)
def am_Rc34 : Nat → Nat → Nat := (am_uR (am_zR (am_uR (am_zR (am_uR (am_zR (am_uR (am_zR (am_uR (am_zR (am_uR (am_zR (am_uR (am_zR (am_uR (am_zR (am_uR (am_zR (am_uR (am_zR am_Rc33 94) 93 1 94) 95) 93 3 95) 96) 93 4 96) 97) 93 5 97) 98) 93 6 98) 99) 93 7 99) 100) 93 8 100) 101) 93 9 101) 102) 93 10 102) 103) 93 11 103)
def am_Rc35 : Nat → Nat → Nat := (am_uR (am_zR (am_uR (am_zR (am_uR (am_zR (am_uR (am_zR (am_uR (am_zR (am_uR (am_zR (am_uR (am_zR (am_uR (am_zR (am_uR (am_zR (am_uR (am_zR am_Rc34 104) 93 12 104) 105) 93 13 105) 106) 93 14 106) 107) 93 15 107) 108) 93 16 108) 109) 93 17 109) 110) 93 18 110) 111) 93 19 111) 112) 93 20 112) 113) 93 21 113)
def am_Rc36 : Nat → Nat → Nat := (am_uR (am_zR (am_uR (am_zR (am_uR (am_zR (am_uR (am_zR (am_uR (am_zR (am_uR (am_zR (am_uR (am_zR (am_uR (am_zR (am_uR (am_zR (am_uR (am_zR am_Rc35 114) 93 22 114) 115) 93 23 115) 116) 93 37 116) 117) 93 38 117) 118) 93 40 118) 119) 93 41 119) 120) 93 42 120) 121) 93 43 121) 122) 93 44 122) 123) 93 45 123)
def am_Rc37 : Nat → Nat → Nat := (am_uR (am_zR (am_uR (am_zR (am_uR (am_zR (am_uR (am_zR (am_uR (am_zR (am_uR (am_zR (am_uR (am_zR (am_uR (am_zR (am_uR (am_zR (am_uR (am_zR am_Rc36 124) 93 46 124) 125) 93 47 125) 126) 93 48 126) 127) 93 49 127) 128) 93 64 128) 129) 93 65 129) 130) 93 66 130) 131) 93 67 131) 132) 93 71 132) 133) 93 72 133)
def am_Rc38 : Nat → Nat → Nat := (am_uR (am_zR (am_uR (am_zR (am_uR (am_zR (am_uR (am_zR (am_uR (am_zR (am_uR (am_zR am_Rc37 134) 93 73 134) 135) 93 74 135) 136) 93 75 136) 137) 93 76 137) 138) 93 77 138) 139) 93 78 139)
set_option maxRecDepth 100000 in
theorem k_S_init_0 {d N : Nat} {Q : Value → am_H → Prop} {I : Nat → Nat → Int32} {J : Nat → Nat → Int64} : am_D (d + 1) 114 [.ref 1] (1, am_Ts N 1, I, J, am_Rc1) Q =
    am_D d 900 [.ref 1] (1, am_Ts N 1, I, J, am_Rc1) (fun v h => am_VU d Q 114 (0, 0) 4 [some (.ref 1)] [] h) :=
  (am_D_un rfl (fun p => Nat.beq p 4) 4).trans rfl
set_option maxRecDepth 100000 in
theorem k_S_init_0_4 {d N : Nat} {Q : Value → am_H → Prop} {I : Nat → Nat → Int32} {J : Nat → Nat → Int64} : am_VU d Q 114 (0, 0) 4 [some (.ref 1)] [] (1, am_Ts N 1, I, J, am_Rc1) =
    am_D d 72 [.ref 3] (3, am_Ts N 3, (am_z (am_u (am_z I 2) 1 1 0) 3), (am_zJ (am_zJ J 2) 3), am_Rc2) (fun v h => am_VU d Q 114 (21, 1017) 26 [some (.ref 1)] [.ref 3, .ref 1] h) :=
  (am_VU_un (fun p => Nat.beq p 26) 13).trans rfl
set_option maxRecDepth 100000 in
theorem k_Town_init_0 {d N : Nat} {Q : Value → am_H → Prop} {I : Nat → Nat → Int32} {J : Nat → Nat → Int64} : am_D (d + 1) 72 [.ref 3] (3, am_Ts N 3, I, J, am_Rc2) Q =
    am_D d 900 [.ref 3] (3, am_Ts N 3, I, J, am_Rc2) (fun v h => am_VU d Q 72 (0, 0) 4 [some (.ref 3)] [] h) :=
  (am_D_un rfl (fun p => Nat.beq p 4) 4).trans rfl
set_option maxRecDepth 100000 in
theorem k_Town_init_0_4 {d N : Nat} {Q : Value → am_H → Prop} {I : Nat → Nat → Int32} {J : Nat → Nat → Int64} : am_VU d Q 72 (0, 0) 4 [some (.ref 3)] [] (3, am_Ts N 3, I, J, am_Rc2) =
    am_D d 10 [.ref 18] (18, am_Ts N 18, (am_z (am_z (am_z (am_z (am_z (am_z (am_z (am_z (am_z (am_z (am_z (am_z (am_z (am_z (am_z I 4) 5) 6) 7) 8) 9) 10) 11) 12) 13) 14) 15) 16) 17) 18), (am_zJ (am_zJ (am_zJ (am_zJ (am_zJ (am_zJ (am_zJ (am_zJ (am_zJ (am_zJ (am_zJ (am_zJ (am_zJ (am_zJ (am_zJ J 4) 5) 6) 7) 8) 9) 10) 11) 12) 13) 14) 15) 16) 17) 18), am_Rc3) (fun v h => am_VU d Q 72 (19, 295) 120 [some (.ref 3)] [.ref 18, .ref 3] h) :=
  (am_VU_un (fun p => Nat.beq p 120) 62).trans rfl
set_option maxRecDepth 100000 in
theorem k_Laws_init_0 {d N : Nat} {Q : Value → am_H → Prop} {I : Nat → Nat → Int32} {J : Nat → Nat → Int64} : am_D (d + 1) 10 [.ref 18] (18, am_Ts N 18, I, J, am_Rc3) Q =
    am_D d 900 [.ref 18] (18, am_Ts N 18, I, J, am_Rc3) (fun v h => am_VU d Q 10 (0, 0) 4 [some (.ref 18)] [] h) :=
  (am_D_un rfl (fun p => Nat.beq p 4) 4).trans rfl
set_option maxRecDepth 100000 in
theorem k_Laws_init_0_4 {d N : Nat} {Q : Value → am_H → Prop} {I : Nat → Nat → Int32} {J : Nat → Nat → Int64} : am_VU d Q 10 (0, 0) 4 [some (.ref 18)] [] (18, am_Ts N 18, I, J, am_Rc3) =
    Q .null (22, am_Ts N 22, (am_z (am_z (am_z (am_z I 19) 20) 21) 22), (am_zJ (am_zJ (am_zJ (am_zJ J 19) 20) 21) 22), am_Rc4) :=
  (am_VU_un (fun p => false) 19).trans rfl
set_option maxRecDepth 100000 in
theorem k_Town_init_0_120 {d N : Nat} {Q : Value → am_H → Prop} {I : Nat → Nat → Int32} {J : Nat → Nat → Int64} : am_VU d Q 72 (19, 295) 120 [some (.ref 3)] [.ref 18, .ref 3] (22, am_Ts N 22, I, J, am_Rc4) =
    Q .null (22, am_Ts N 22, I, J, am_Rc5) :=
  (am_VU_un (fun p => false) 4).trans rfl
set_option maxRecDepth 100000 in
theorem k_S_init_0_26 {d N : Nat} {Q : Value → am_H → Prop} {I : Nat → Nat → Int32} {J : Nat → Nat → Int64} : am_VU d Q 114 (21, 1017) 26 [some (.ref 1)] [.ref 3, .ref 1] (22, am_Ts N 22, I, J, am_Rc5) =
    am_D d 72 [.ref 23] (23, am_Ts N 23, (am_z I 23), (am_zJ J 23), am_Rc6) (fun v h => am_VU d Q 114 (41, 1334) 37 [some (.ref 1)] [.ref 23, .ref 1] h) :=
  (am_VU_un (fun p => Nat.beq p 37) 7).trans rfl
set_option maxRecDepth 100000 in
theorem k_Town_init_1 {d N : Nat} {Q : Value → am_H → Prop} {I : Nat → Nat → Int32} {J : Nat → Nat → Int64} : am_D (d + 1) 72 [.ref 23] (23, am_Ts N 23, I, J, am_Rc6) Q =
    am_D d 900 [.ref 23] (23, am_Ts N 23, I, J, am_Rc6) (fun v h => am_VU d Q 72 (0, 0) 4 [some (.ref 23)] [] h) :=
  (am_D_un rfl (fun p => Nat.beq p 4) 4).trans rfl
set_option maxRecDepth 100000 in
theorem k_Town_init_1_4 {d N : Nat} {Q : Value → am_H → Prop} {I : Nat → Nat → Int32} {J : Nat → Nat → Int64} : am_VU d Q 72 (0, 0) 4 [some (.ref 23)] [] (23, am_Ts N 23, I, J, am_Rc6) =
    am_D d 10 [.ref 38] (38, am_Ts N 38, (am_z (am_z (am_z (am_z (am_z (am_z (am_z (am_z (am_z (am_z (am_z (am_z (am_z (am_z (am_z I 24) 25) 26) 27) 28) 29) 30) 31) 32) 33) 34) 35) 36) 37) 38), (am_zJ (am_zJ (am_zJ (am_zJ (am_zJ (am_zJ (am_zJ (am_zJ (am_zJ (am_zJ (am_zJ (am_zJ (am_zJ (am_zJ (am_zJ J 24) 25) 26) 27) 28) 29) 30) 31) 32) 33) 34) 35) 36) 37) 38), am_Rc7) (fun v h => am_VU d Q 72 (19, 295) 120 [some (.ref 23)] [.ref 38, .ref 23] h) :=
  (am_VU_un (fun p => Nat.beq p 120) 62).trans rfl
set_option maxRecDepth 100000 in
theorem k_Laws_init_1 {d N : Nat} {Q : Value → am_H → Prop} {I : Nat → Nat → Int32} {J : Nat → Nat → Int64} : am_D (d + 1) 10 [.ref 38] (38, am_Ts N 38, I, J, am_Rc7) Q =
    am_D d 900 [.ref 38] (38, am_Ts N 38, I, J, am_Rc7) (fun v h => am_VU d Q 10 (0, 0) 4 [some (.ref 38)] [] h) :=
  (am_D_un rfl (fun p => Nat.beq p 4) 4).trans rfl
set_option maxRecDepth 100000 in
theorem k_Laws_init_1_4 {d N : Nat} {Q : Value → am_H → Prop} {I : Nat → Nat → Int32} {J : Nat → Nat → Int64} : am_VU d Q 10 (0, 0) 4 [some (.ref 38)] [] (38, am_Ts N 38, I, J, am_Rc7) =
    Q .null (42, am_Ts N 42, (am_z (am_z (am_z (am_z I 39) 40) 41) 42), (am_zJ (am_zJ (am_zJ (am_zJ J 39) 40) 41) 42), am_Rc8) :=
  (am_VU_un (fun p => false) 19).trans rfl
set_option maxRecDepth 100000 in
theorem k_Town_init_1_120 {d N : Nat} {Q : Value → am_H → Prop} {I : Nat → Nat → Int32} {J : Nat → Nat → Int64} : am_VU d Q 72 (19, 295) 120 [some (.ref 23)] [.ref 38, .ref 23] (42, am_Ts N 42, I, J, am_Rc8) =
    Q .null (42, am_Ts N 42, I, J, am_Rc9) :=
  (am_VU_un (fun p => false) 4).trans rfl
set_option maxRecDepth 100000 in
theorem k_S_init_0_37 {d N : Nat} {Q : Value → am_H → Prop} {I : Nat → Nat → Int32} {J : Nat → Nat → Int64} : am_VU d Q 114 (41, 1334) 37 [some (.ref 1)] [.ref 23, .ref 1] (42, am_Ts N 42, I, J, am_Rc9) =
    am_D d 30 [.ref 43, .ref 23] (43, am_Ts N 43, (am_z I 43), (am_zJ J 43), am_Rc10) (fun v h => am_VU d Q 114 (47, 1438) 52 [some (.ref 1)] [.ref 43, .ref 1] h) :=
  (am_VU_un (fun p => Nat.beq p 52) 9).trans rfl
set_option maxRecDepth 100000 in
theorem k_Reader_init_0 {d N : Nat} {Q : Value → am_H → Prop} {I : Nat → Nat → Int32} {J : Nat → Nat → Int64} : am_D (d + 1) 30 [.ref 43, .ref 23] (43, am_Ts N 43, I, J, am_Rc10) Q =
    am_D d 900 [.ref 43] (43, am_Ts N 43, I, J, am_Rc10) (fun v h => am_VU d Q 30 (0, 0) 4 [some (.ref 43), some (.ref 23)] [] h) :=
  (am_D_un rfl (fun p => Nat.beq p 4) 4).trans rfl
set_option maxRecDepth 100000 in
theorem k_Reader_init_0_4 {d N : Nat} {Q : Value → am_H → Prop} {I : Nat → Nat → Int32} {J : Nat → Nat → Int64} : am_VU d Q 30 (0, 0) 4 [some (.ref 43), some (.ref 23)] [] (43, am_Ts N 43, I, J, am_Rc10) =
    am_D d 62 [.ref 44] (44, am_Ts N 44, (am_z I 44), (am_zJ J 44), am_Rc11) (fun v h => am_VU d Q 30 (2, 6) 12 [some (.ref 43), some (.ref 23)] [.ref 44, .ref 43] h) :=
  (am_VU_un (fun p => Nat.beq p 12) 6).trans rfl
set_option maxRecDepth 100000 in
theorem k_Tokens_init_0 {d N : Nat} {Q : Value → am_H → Prop} {I : Nat → Nat → Int32} {J : Nat → Nat → Int64} : am_D (d + 1) 62 [.ref 44] (44, am_Ts N 44, I, J, am_Rc11) Q =
    am_D d 900 [.ref 44] (44, am_Ts N 44, I, J, am_Rc11) (fun v h => am_VU d Q 62 (0, 0) 4 [some (.ref 44)] [] h) :=
  (am_D_un rfl (fun p => Nat.beq p 4) 4).trans rfl
set_option maxRecDepth 100000 in
theorem k_Tokens_init_0_4 {d N : Nat} {Q : Value → am_H → Prop} {I : Nat → Nat → Int32} {J : Nat → Nat → Int64} : am_VU d Q 62 (0, 0) 4 [some (.ref 44)] [] (44, am_Ts N 44, I, J, am_Rc11) =
    Q .null (45, am_Ts N 45, (am_z I 45), (am_zJ J 45), am_Rc12) :=
  (am_VU_un (fun p => false) 7).trans rfl
set_option maxRecDepth 100000 in
theorem k_Reader_init_0_12 {d N : Nat} {Q : Value → am_H → Prop} {I : Nat → Nat → Int32} {J : Nat → Nat → Int64} : am_VU d Q 30 (2, 6) 12 [some (.ref 43), some (.ref 23)] [.ref 44, .ref 43] (45, am_Ts N 45, I, J, am_Rc12) =
    am_D d 2 [.ref 46, .ref 44, .ref 38] (46, am_Ts N 46, (am_z (am_u I 43 7 (-1)) 46), (am_zJ J 46), am_Rc13) (fun v h => am_VU d Q 30 (5, 96) 41 [some (.ref 43), some (.ref 23)] [.ref 46, .ref 43] h) :=
  (am_VU_un (fun p => Nat.beq p 41) 17).trans rfl
set_option maxRecDepth 100000 in
theorem k_Expression_init_0 {d N : Nat} {Q : Value → am_H → Prop} {I : Nat → Nat → Int32} {J : Nat → Nat → Int64} : am_D (d + 1) 2 [.ref 46, .ref 44, .ref 38] (46, am_Ts N 46, I, J, am_Rc13) Q =
    am_D d 900 [.ref 46] (46, am_Ts N 46, I, J, am_Rc13) (fun v h => am_VU d Q 2 (0, 0) 4 [some (.ref 46), some (.ref 44), some (.ref 38)] [] h) :=
  (am_D_un rfl (fun p => Nat.beq p 4) 4).trans rfl
set_option maxRecDepth 100000 in
theorem k_Expression_init_0_4 {d N : Nat} {Q : Value → am_H → Prop} {I : Nat → Nat → Int32} {J : Nat → Nat → Int64} : am_VU d Q 2 (0, 0) 4 [some (.ref 46), some (.ref 44), some (.ref 38)] [] (46, am_Ts N 46, I, J, am_Rc13) =
    Q .null (48, am_Ts N 48, (am_z (am_z I 47) 48), (am_zJ (am_zJ J 47) 48), am_Rc14) :=
  (am_VU_un (fun p => false) 17).trans rfl
set_option maxRecDepth 100000 in
theorem k_Reader_init_0_41 {d N : Nat} {Q : Value → am_H → Prop} {I : Nat → Nat → Int32} {J : Nat → Nat → Int64} : am_VU d Q 30 (5, 96) 41 [some (.ref 43), some (.ref 23)] [.ref 46, .ref 43] (48, am_Ts N 48, I, J, am_Rc14) =
    Q .null (48, am_Ts N 48, I, J, am_Rc15) :=
  (am_VU_un (fun p => false) 4).trans rfl
set_option maxRecDepth 100000 in
theorem k_S_init_0_52 {d N : Nat} {Q : Value → am_H → Prop} {I : Nat → Nat → Int32} {J : Nat → Nat → Int64} : am_VU d Q 114 (47, 1438) 52 [some (.ref 1)] [.ref 43, .ref 1] (48, am_Ts N 48, I, J, am_Rc15) =
    am_D d 99 [.ref 49] (49, am_Ts N 49, (am_z I 49), (am_zJ J 49), am_Rc16) (fun v h => am_VU d Q 114 (53, 1483) 63 [some (.ref 1)] [.ref 49, .ref 1] h) :=
  (am_VU_un (fun p => Nat.beq p 63) 7).trans rfl
set_option maxRecDepth 100000 in
theorem k_World_init_0 {d N : Nat} {Q : Value → am_H → Prop} {I : Nat → Nat → Int32} {J : Nat → Nat → Int64} : am_D (d + 1) 99 [.ref 49] (49, am_Ts N 49, I, J, am_Rc16) Q =
    am_D d 900 [.ref 49] (49, am_Ts N 49, I, J, am_Rc16) (fun v h => am_VU d Q 99 (0, 0) 4 [some (.ref 49)] [] h) :=
  (am_D_un rfl (fun p => Nat.beq p 4) 4).trans rfl
set_option maxRecDepth 100000 in
theorem k_World_init_0_4 {d N : Nat} {Q : Value → am_H → Prop} {I : Nat → Nat → Int32} {J : Nat → Nat → Int64} : am_VU d Q 99 (0, 0) 4 [some (.ref 49)] [] (49, am_Ts N 49, I, J, am_Rc16) =
    Q .null (54, am_Ts N 54, (am_z (am_z (am_z (am_z (am_z I 50) 51) 52) 53) 54), (am_zJ (am_zJ (am_zJ (am_zJ (am_zJ J 50) 51) 52) 53) 54), am_Rc17) :=
  (am_VU_un (fun p => false) 23).trans rfl
set_option maxRecDepth 100000 in
theorem k_S_init_0_63 {d N : Nat} {Q : Value → am_H → Prop} {I : Nat → Nat → Int32} {J : Nat → Nat → Int64} : am_VU d Q 114 (53, 1483) 63 [some (.ref 1)] [.ref 49, .ref 1] (54, am_Ts N 54, I, J, am_Rc17) =
    am_D d 99 [.ref 55] (55, am_Ts N 55, (am_z I 55), (am_zJ J 55), am_Rc18) (fun v h => am_VU d Q 114 (59, 1528) 74 [some (.ref 1)] [.ref 55, .ref 1] h) :=
  (am_VU_un (fun p => Nat.beq p 74) 7).trans rfl
set_option maxRecDepth 100000 in
theorem k_World_init_1 {d N : Nat} {Q : Value → am_H → Prop} {I : Nat → Nat → Int32} {J : Nat → Nat → Int64} : am_D (d + 1) 99 [.ref 55] (55, am_Ts N 55, I, J, am_Rc18) Q =
    am_D d 900 [.ref 55] (55, am_Ts N 55, I, J, am_Rc18) (fun v h => am_VU d Q 99 (0, 0) 4 [some (.ref 55)] [] h) :=
  (am_D_un rfl (fun p => Nat.beq p 4) 4).trans rfl
set_option maxRecDepth 100000 in
theorem k_World_init_1_4 {d N : Nat} {Q : Value → am_H → Prop} {I : Nat → Nat → Int32} {J : Nat → Nat → Int64} : am_VU d Q 99 (0, 0) 4 [some (.ref 55)] [] (55, am_Ts N 55, I, J, am_Rc18) =
    Q .null (60, am_Ts N 60, (am_z (am_z (am_z (am_z (am_z I 56) 57) 58) 59) 60), (am_zJ (am_zJ (am_zJ (am_zJ (am_zJ J 56) 57) 58) 59) 60), am_Rc19) :=
  (am_VU_un (fun p => false) 23).trans rfl
set_option maxRecDepth 100000 in
theorem k_S_init_0_74 {d N : Nat} {Q : Value → am_H → Prop} {I : Nat → Nat → Int32} {J : Nat → Nat → Int64} : am_VU d Q 114 (59, 1528) 74 [some (.ref 1)] [.ref 55, .ref 1] (60, am_Ts N 60, I, J, am_Rc19) =
    am_D d 18 [.ref 61, .ref 3] (61, am_Ts N 61, (am_z (am_u I 1 7 0) 61), (am_zJ J 61), am_Rc20) (fun v h => am_VU d Q 114 (70, 2838) 94 [some (.ref 1)] [.ref 61, .ref 1] h) :=
  (am_VU_un (fun p => Nat.beq p 94) 12).trans rfl
set_option maxRecDepth 100000 in
theorem k_Night_init_0 {d N : Nat} {Q : Value → am_H → Prop} {I : Nat → Nat → Int32} {J : Nat → Nat → Int64} : am_D (d + 1) 18 [.ref 61, .ref 3] (61, am_Ts N 61, I, J, am_Rc20) Q =
    am_D d 900 [.ref 61] (61, am_Ts N 61, I, J, am_Rc20) (fun v h => am_VU d Q 18 (0, 0) 4 [some (.ref 61), some (.ref 3)] [] h) :=
  (am_D_un rfl (fun p => Nat.beq p 4) 4).trans rfl
set_option maxRecDepth 100000 in
theorem k_Night_init_0_4 {d N : Nat} {Q : Value → am_H → Prop} {I : Nat → Nat → Int32} {J : Nat → Nat → Int64} : am_VU d Q 18 (0, 0) 4 [some (.ref 61), some (.ref 3)] [] (61, am_Ts N 61, I, J, am_Rc20) =
    am_D d 50 [.ref 62] (62, am_Ts N 62, (am_z I 62), (am_zJ J 62), am_Rc21) (fun v h => am_VU d Q 18 (4, 1091) 12 [some (.ref 61), some (.ref 3)] [.ref 62, .ref 61] h) :=
  (am_VU_un (fun p => Nat.beq p 12) 6).trans rfl
set_option maxRecDepth 100000 in
theorem k_Reckoner_init_0 {d N : Nat} {Q : Value → am_H → Prop} {I : Nat → Nat → Int32} {J : Nat → Nat → Int64} : am_D (d + 1) 50 [.ref 62] (62, am_Ts N 62, I, J, am_Rc21) Q =
    am_D d 900 [.ref 62] (62, am_Ts N 62, I, J, am_Rc21) (fun v h => am_VU d Q 50 (0, 0) 4 [some (.ref 62)] [] h) :=
  (am_D_un rfl (fun p => Nat.beq p 4) 4).trans rfl
set_option maxRecDepth 100000 in
theorem k_Reckoner_init_0_4 {d N : Nat} {Q : Value → am_H → Prop} {I : Nat → Nat → Int32} {J : Nat → Nat → Int64} : am_VU d Q 50 (0, 0) 4 [some (.ref 62)] [] (62, am_Ts N 62, I, J, am_Rc21) =
    Q .null (65, am_Ts N 65, (am_z (am_z (am_z I 63) 64) 65), (am_zJ (am_zJ (am_zJ J 63) 64) 65), am_Rc22) :=
  (am_VU_un (fun p => false) 15).trans rfl
set_option maxRecDepth 100000 in
theorem k_Night_init_0_12 {d N : Nat} {Q : Value → am_H → Prop} {I : Nat → Nat → Int32} {J : Nat → Nat → Int64} : am_VU d Q 18 (4, 1091) 12 [some (.ref 61), some (.ref 3)] [.ref 62, .ref 61] (65, am_Ts N 65, I, J, am_Rc22) =
    Q .null (71, am_Ts N 71, (am_z (am_z (am_z (am_z (am_z (am_z I 66) 67) 68) 69) 70) 71), (am_zJ (am_zJ (am_zJ (am_zJ (am_zJ (am_zJ J 66) 67) 68) 69) 70) 71), am_Rc23) :=
  (am_VU_un (fun p => false) 39).trans rfl
set_option maxRecDepth 100000 in
theorem k_S_init_0_94 {d N : Nat} {Q : Value → am_H → Prop} {I : Nat → Nat → Int32} {J : Nat → Nat → Int64} : am_VU d Q 114 (70, 2838) 94 [some (.ref 1)] [.ref 61, .ref 1] (71, am_Ts N 71, I, J, am_Rc23) =
    am_D d 55 [.ref 72] (72, am_Ts N 72, (am_z I 72), (am_zJ J 72), am_Rc24) (fun v h => am_VU d Q 114 (75, 2940) 105 [some (.ref 1)] [.ref 72, .ref 1] h) :=
  (am_VU_un (fun p => Nat.beq p 105) 7).trans rfl
set_option maxRecDepth 100000 in
theorem k_Sights_init_0 {d N : Nat} {Q : Value → am_H → Prop} {I : Nat → Nat → Int32} {J : Nat → Nat → Int64} : am_D (d + 1) 55 [.ref 72] (72, am_Ts N 72, I, J, am_Rc24) Q =
    am_D d 900 [.ref 72] (72, am_Ts N 72, I, J, am_Rc24) (fun v h => am_VU d Q 55 (0, 0) 4 [some (.ref 72)] [] h) :=
  (am_D_un rfl (fun p => Nat.beq p 4) 4).trans rfl
set_option maxRecDepth 100000 in
theorem k_Sights_init_0_4 {d N : Nat} {Q : Value → am_H → Prop} {I : Nat → Nat → Int32} {J : Nat → Nat → Int64} : am_VU d Q 55 (0, 0) 4 [some (.ref 72)] [] (72, am_Ts N 72, I, J, am_Rc24) =
    Q .null (76, am_Ts N 76, (am_z (am_z (am_z (am_z I 73) 74) 75) 76), (am_zJ (am_zJ (am_zJ (am_zJ J 73) 74) 75) 76), am_Rc25) :=
  (am_VU_un (fun p => false) 19).trans rfl
set_option maxRecDepth 100000 in
theorem k_S_init_0_105 {d N : Nat} {Q : Value → am_H → Prop} {I : Nat → Nat → Int32} {J : Nat → Nat → Int64} : am_VU d Q 114 (75, 2940) 105 [some (.ref 1)] [.ref 72, .ref 1] (76, am_Ts N 76, I, J, am_Rc25) =
    am_D d 0 [.ref 77] (77, am_Ts N 77, (am_z I 77), (am_zJ J 77), am_Rc26) (fun v h => am_VU d Q 114 (79, 3004) 116 [some (.ref 1)] [.ref 77, .ref 1] h) :=
  (am_VU_un (fun p => Nat.beq p 116) 7).trans rfl
set_option maxRecDepth 100000 in
theorem k_Changes_init_0 {d N : Nat} {Q : Value → am_H → Prop} {I : Nat → Nat → Int32} {J : Nat → Nat → Int64} : am_D (d + 1) 0 [.ref 77] (77, am_Ts N 77, I, J, am_Rc26) Q =
    am_D d 900 [.ref 77] (77, am_Ts N 77, I, J, am_Rc26) (fun v h => am_VU d Q 0 (0, 0) 4 [some (.ref 77)] [] h) :=
  (am_D_un rfl (fun p => Nat.beq p 4) 4).trans rfl
set_option maxRecDepth 100000 in
theorem k_Changes_init_0_4 {d N : Nat} {Q : Value → am_H → Prop} {I : Nat → Nat → Int32} {J : Nat → Nat → Int64} : am_VU d Q 0 (0, 0) 4 [some (.ref 77)] [] (77, am_Ts N 77, I, J, am_Rc26) =
    Q .null (80, am_Ts N 80, (am_z (am_z (am_z I 78) 79) 80), (am_zJ (am_zJ (am_zJ J 78) 79) 80), am_Rc27) :=
  (am_VU_un (fun p => false) 15).trans rfl
set_option maxRecDepth 100000 in
theorem k_S_init_0_116 {d N : Nat} {Q : Value → am_H → Prop} {I : Nat → Nat → Int32} {J : Nat → Nat → Int64} : am_VU d Q 114 (79, 3004) 116 [some (.ref 1)] [.ref 77, .ref 1] (80, am_Ts N 80, I, J, am_Rc27) =
    am_D d 80 [.ref 81, .ref 49, .ref 61, .ref 72] (81, am_Ts N 81, (am_z I 81), (am_zJ J 81), am_Rc28) (fun v h => am_VU d Q 114 (91, 3267) 139 [some (.ref 1)] [.ref 81, .ref 1] h) :=
  (am_VU_un (fun p => Nat.beq p 139) 13).trans rfl
set_option maxRecDepth 100000 in
theorem k_Tries_init_0 {d N : Nat} {Q : Value → am_H → Prop} {I : Nat → Nat → Int32} {J : Nat → Nat → Int64} : am_D (d + 1) 80 [.ref 81, .ref 49, .ref 61, .ref 72] (81, am_Ts N 81, I, J, am_Rc28) Q =
    am_D d 900 [.ref 81] (81, am_Ts N 81, I, J, am_Rc28) (fun v h => am_VU d Q 80 (0, 0) 4 [some (.ref 81), some (.ref 49), some (.ref 61), some (.ref 72)] [] h) :=
  (am_D_un rfl (fun p => Nat.beq p 4) 4).trans rfl
set_option maxRecDepth 100000 in
theorem k_Tries_init_0_4 {d N : Nat} {Q : Value → am_H → Prop} {I : Nat → Nat → Int32} {J : Nat → Nat → Int64} : am_VU d Q 80 (0, 0) 4 [some (.ref 81), some (.ref 49), some (.ref 61), some (.ref 72)] [] (81, am_Ts N 81, I, J, am_Rc28) =
    am_D d 99 [.ref 82] (82, am_Ts N 82, (am_z I 82), (am_zJ J 82), am_Rc29) (fun v h => am_VU d Q 80 (6, 45) 12 [some (.ref 81), some (.ref 49), some (.ref 61), some (.ref 72)] [.ref 82, .ref 81] h) :=
  (am_VU_un (fun p => Nat.beq p 12) 6).trans rfl
set_option maxRecDepth 100000 in
theorem k_World_init_2 {d N : Nat} {Q : Value → am_H → Prop} {I : Nat → Nat → Int32} {J : Nat → Nat → Int64} : am_D (d + 1) 99 [.ref 82] (82, am_Ts N 82, I, J, am_Rc29) Q =
    am_D d 900 [.ref 82] (82, am_Ts N 82, I, J, am_Rc29) (fun v h => am_VU d Q 99 (0, 0) 4 [some (.ref 82)] [] h) :=
  (am_D_un rfl (fun p => Nat.beq p 4) 4).trans rfl
set_option maxRecDepth 100000 in
theorem k_World_init_2_4 {d N : Nat} {Q : Value → am_H → Prop} {I : Nat → Nat → Int32} {J : Nat → Nat → Int64} : am_VU d Q 99 (0, 0) 4 [some (.ref 82)] [] (82, am_Ts N 82, I, J, am_Rc29) =
    Q .null (87, am_Ts N 87, (am_z (am_z (am_z (am_z (am_z I 83) 84) 85) 86) 87), (am_zJ (am_zJ (am_zJ (am_zJ (am_zJ J 83) 84) 85) 86) 87), am_Rc30) :=
  (am_VU_un (fun p => false) 23).trans rfl
set_option maxRecDepth 100000 in
theorem k_Tries_init_0_12 {d N : Nat} {Q : Value → am_H → Prop} {I : Nat → Nat → Int32} {J : Nat → Nat → Int64} : am_VU d Q 80 (6, 45) 12 [some (.ref 81), some (.ref 49), some (.ref 61), some (.ref 72)] [.ref 82, .ref 81] (87, am_Ts N 87, I, J, am_Rc30) =
    Q .null (92, am_Ts N 92, (am_z (am_z (am_z (am_z (am_z I 88) 89) 90) 91) 92), (am_zJ (am_zJ (am_zJ (am_zJ (am_zJ J 88) 89) 90) 91) 92), am_Rc31) :=
  (am_VU_un (fun p => false) 33).trans rfl
set_option maxRecDepth 100000 in
theorem k_S_init_0_139 {d N : Nat} {Q : Value → am_H → Prop} {I : Nat → Nat → Int32} {J : Nat → Nat → Int64} : am_VU d Q 114 (91, 3267) 139 [some (.ref 1)] [.ref 81, .ref 1] (92, am_Ts N 92, I, J, am_Rc31) =
    am_D d 73 [.ref 3] (92, am_Ts N 92, I, J, am_Rc32) (fun v h => am_VU d Q 114 (91, 3267) 149 [some (.ref 1)] [] h) :=
  (am_VU_un (fun p => Nat.beq p 149) 6).trans rfl
set_option maxRecDepth 100000 in
theorem k_S_init_0_149 {d N : Nat} {Q : Value → am_H → Prop} {I : Nat → Nat → Int32} {J : Nat → Nat → Int64} : am_VU d Q 114 (91, 3267) 149 [some (.ref 1)] [] (92, am_Ts N 92, I, J, am_Rc32) =
    am_D d 150 [.ref 1] (92, am_Ts N 92, I, J, am_Rc32) (fun v h => am_VU d Q 114 (91, 3267) 153 [some (.ref 1)] [] h) :=
  (am_VU_un (fun p => Nat.beq p 153) 4).trans rfl
set_option maxRecDepth 100000 in
theorem k_S_init_0_153 {d N : Nat} {Q : Value → am_H → Prop} {I : Nat → Nat → Int32} {J : Nat → Nat → Int64} : am_VU d Q 114 (91, 3267) 153 [some (.ref 1)] [] (92, am_Ts N 92, I, J, am_Rc32) =
    Q .null (92, am_Ts N 92, I, J, am_Rc32) :=
  (am_VU_un (fun p => false) 3).trans rfl
set_option maxRecDepth 100000 in
theorem k_M_init_0 {d N : Nat} {Q : Value → am_H → Prop} {I : Nat → Nat → Int32} {J : Nat → Nat → Int64} : am_D (d + 1) 158 [.ref 93] (93, am_Ts N 93, I, J, am_Rc33) Q =
    am_D d 900 [.ref 93] (93, am_Ts N 93, I, J, am_Rc33) (fun v h => am_VU d Q 158 (0, 0) 4 [some (.ref 93)] [] h) :=
  (am_D_un rfl (fun p => Nat.beq p 4) 4).trans rfl
set_option maxRecDepth 100000 in
theorem k_M_init_0_4 {d N : Nat} {Q : Value → am_H → Prop} {I : Nat → Nat → Int32} {J : Nat → Nat → Int64} : am_VU d Q 158 (0, 0) 4 [some (.ref 93)] [] (93, am_Ts N 93, I, J, am_Rc33) =
    am_VU d Q 158 (10, 860) 85 [some (.ref 93)] [] (103, am_Ts N 103, (am_z (am_z (am_z (am_z (am_z (am_z (am_z (am_z (am_z (am_z I 94) 95) 96) 97) 98) 99) 100) 101) 102) 103), (am_zJ (am_zJ (am_zJ (am_zJ (am_zJ (am_zJ (am_zJ (am_zJ (am_zJ (am_zJ J 94) 95) 96) 97) 98) 99) 100) 101) 102) 103), am_Rc34) :=
  (am_VU_un (fun p => Nat.beq p 85) 42).trans rfl
set_option maxRecDepth 100000 in
theorem k_M_init_0_85 {d N : Nat} {Q : Value → am_H → Prop} {I : Nat → Nat → Int32} {J : Nat → Nat → Int64} : am_VU d Q 158 (10, 860) 85 [some (.ref 93)] [] (103, am_Ts N 103, I, J, am_Rc34) =
    am_VU d Q 158 (20, 970) 165 [some (.ref 93)] [] (113, am_Ts N 113, (am_z (am_z (am_z (am_z (am_z (am_z (am_z (am_z (am_z (am_z I 104) 105) 106) 107) 108) 109) 110) 111) 112) 113), (am_zJ (am_zJ (am_zJ (am_zJ (am_zJ (am_zJ (am_zJ (am_zJ (am_zJ (am_zJ J 104) 105) 106) 107) 108) 109) 110) 111) 112) 113), am_Rc35) :=
  (am_VU_un (fun p => Nat.beq p 165) 42).trans rfl
set_option maxRecDepth 100000 in
theorem k_M_init_0_165 {d N : Nat} {Q : Value → am_H → Prop} {I : Nat → Nat → Int32} {J : Nat → Nat → Int64} : am_VU d Q 158 (20, 970) 165 [some (.ref 93)] [] (113, am_Ts N 113, I, J, am_Rc35) =
    am_VU d Q 158 (30, 1527) 252 [some (.ref 93)] [] (123, am_Ts N 123, (am_z (am_z (am_z (am_z (am_z (am_z (am_z (am_z (am_u (am_z (am_z I 114) 115) 93 34 (-1)) 116) 117) 118) 119) 120) 121) 122) 123), (am_zJ (am_zJ (am_zJ (am_zJ (am_zJ (am_zJ (am_zJ (am_zJ (am_zJ (am_zJ J 114) 115) 116) 117) 118) 119) 120) 121) 122) 123), am_Rc36) :=
  (am_VU_un (fun p => Nat.beq p 252) 45).trans rfl
set_option maxRecDepth 100000 in
theorem k_M_init_0_252 {d N : Nat} {Q : Value → am_H → Prop} {I : Nat → Nat → Int32} {J : Nat → Nat → Int64} : am_VU d Q 158 (30, 1527) 252 [some (.ref 93)] [] (123, am_Ts N 123, I, J, am_Rc36) =
    am_VU d Q 158 (40, 2443) 364 [some (.ref 93)] [] (133, am_Ts N 133, (am_z (am_z (am_u (am_z (am_z (am_z (am_z (am_u (am_u (am_u (am_u (am_u (am_z (am_z (am_z (am_z I 124) 125) 126) 127) 93 53 (-1)) 93 54 (-1)) 93 55 (-1)) 93 59 (-1)) 93 63 (-1)) 128) 129) 130) 131) 93 70 (-1)) 132) 133), (am_zJ (am_zJ (am_zJ (am_zJ (am_zJ (am_zJ (am_zJ (am_zJ (am_zJ (am_zJ J 124) 125) 126) 127) 128) 129) 130) 131) 132) 133), am_Rc37) :=
  (am_VU_un (fun p => Nat.beq p 364) 60).trans rfl
set_option maxRecDepth 100000 in
theorem k_M_init_0_364 {d N : Nat} {Q : Value → am_H → Prop} {I : Nat → Nat → Int32} {J : Nat → Nat → Int64} : am_VU d Q 158 (40, 2443) 364 [some (.ref 93)] [] (133, am_Ts N 133, I, J, am_Rc37) =
    am_D d 204 [.ref 93] (139, am_Ts N 139, (am_z (am_z (am_z (am_z (am_z (am_z I 134) 135) 136) 137) 138) 139), (am_zJ (am_zJ (am_zJ (am_zJ (am_zJ (am_zJ J 134) 135) 136) 137) 138) 139), am_Rc38) (fun v h => am_VU d Q 158 (46, 2739) 416 [some (.ref 93)] [] h) :=
  (am_VU_un (fun p => Nat.beq p 416) 28).trans rfl
set_option maxRecDepth 100000 in
theorem k_M_init_0_416 {d N : Nat} {Q : Value → am_H → Prop} {I : Nat → Nat → Int32} {J : Nat → Nat → Int64} : am_VU d Q 158 (46, 2739) 416 [some (.ref 93)] [] (139, am_Ts N 139, I, J, am_Rc38) =
    Q .null (139, am_Ts N 139, I, J, am_Rc38) :=
  (am_VU_un (fun p => false) 3).trans rfl
set_option maxRecDepth 100000 in
theorem q_J_fill {d : Nat} {Q : Value → am_H → Prop} {N : Nat} {I : Nat → Nat → Int32} {J : Nat → Nat → Int64} {a0 : Nat} {x1 : Int32} : am_D (d + 1) 294 [.ref a0, .int x1] (92, am_Ts N 92, I, J, am_Rc32) Q =
    am_g (!(Nat.beq (am_Ts N 92 a0).1 0) && Nat.ble (am_Ts N 92 a0).1 7) (am_V d Q 294 5 [some (.ref a0), some (.int x1), some (.int (nI 0)), some (.int (nI (am_Ts N 92 a0).2))] [] (92, am_Ts N 92, I, J, am_Rc32)) :=
  (am_D_un rfl (fun p => Nat.beq p 5) 7).trans rfl
set_option maxRecDepth 100000 in
theorem q_J_fill_5 {d : Nat} {Q : Value → am_H → Prop} {N : Nat} {I : Nat → Nat → Int32} {J : Nat → Nat → Int64} {a0 : Nat} {x1 : Int32} {x2 : Int32} {x3 : Int32} : am_V d Q 294 5 [some (.ref a0), some (.int x1), some (.int x2), some (.int x3)] [] (92, am_Ts N 92, I, J, am_Rc32) =
    am_if (decide (x3 ≤ x2)) (Q .null (92, am_Ts N 92, I, J, am_Rc32)) (am_g (Nat.beq (am_Ts N 92 a0).1 1 && am_inb x2 (am_Ts N 92 a0).2) (am_V d Q 294 5 [some (.ref a0), some (.int x1), some (.int (x2 + (nI 1))), some (.int x3)] [] (92, am_Ts N 92, (am_u I a0 x2.toNatClampNeg x1), J, am_Rc32))) :=
  (am_V_un (fun p => Nat.beq p 5) 11).trans rfl
set_option maxRecDepth 100000 in
theorem q_Laws_clear {d : Nat} {Q : Value → am_H → Prop} {N : Nat} {I : Nat → Nat → Int32} {J : Nat → Nat → Int64} : am_D (d + 1) 11 [.ref 18] (92, am_Ts N 92, I, J, am_Rc32) Q =
    am_D d 294 [.ref 20, .int (nI 0)] (92, am_Ts N 92, (am_u (am_u I 18 0 (nI 0)) 18 1 (nI 0)), J, am_Rc32) (fun v h => am_V d Q 11 18 [some (.ref 18)] [] h) :=
  (am_D_un rfl (fun p => Nat.beq p 18 || Nat.beq p 26 || Nat.beq p 34) 12).trans rfl
set_option maxRecDepth 100000 in
theorem q_Laws_clear_18 {d : Nat} {Q : Value → am_H → Prop} {N : Nat} {I : Nat → Nat → Int32} {J : Nat → Nat → Int64} : am_V d Q 11 18 [some (.ref 18)] [] (92, am_Ts N 92, I, J, am_Rc32) =
    am_D d 294 [.ref 21, .int (nI 0)] (92, am_Ts N 92, I, J, am_Rc32) (fun v h => am_V d Q 11 26 [some (.ref 18)] [] h) :=
  (am_V_un (fun p => Nat.beq p 18 || Nat.beq p 26 || Nat.beq p 34) 6).trans rfl
set_option maxRecDepth 100000 in
theorem q_Laws_clear_26 {d : Nat} {Q : Value → am_H → Prop} {N : Nat} {I : Nat → Nat → Int32} {J : Nat → Nat → Int64} : am_V d Q 11 26 [some (.ref 18)] [] (92, am_Ts N 92, I, J, am_Rc32) =
    am_D d 294 [.ref 22, .int (nI 0)] (92, am_Ts N 92, I, J, am_Rc32) (fun v h => am_V d Q 11 34 [some (.ref 18)] [] h) :=
  (am_V_un (fun p => Nat.beq p 18 || Nat.beq p 26 || Nat.beq p 34) 6).trans rfl
set_option maxRecDepth 100000 in
theorem q_Laws_clear_34 {d : Nat} {Q : Value → am_H → Prop} {N : Nat} {I : Nat → Nat → Int32} {J : Nat → Nat → Int64} : am_V d Q 11 34 [some (.ref 18)] [] (92, am_Ts N 92, I, J, am_Rc32) =
    Q .null (92, am_Ts N 92, I, J, am_Rc32) :=
  (am_V_un (fun p => Nat.beq p 18 || Nat.beq p 26 || Nat.beq p 34) 3).trans rfl
set_option maxRecDepth 100000 in
theorem q_Town_clear {d : Nat} {Q : Value → am_H → Prop} {N : Nat} {I : Nat → Nat → Int32} {J : Nat → Nat → Int64} : am_D (d + 1) 73 [.ref 3] (92, am_Ts N 92, I, J, am_Rc32) Q =
    am_D d 294 [.ref 7, .int (nI 0)] (92, am_Ts N 92, (am_u (am_u (am_u (am_u (am_u (am_u (am_u I 3 0 (nI 0)) 3 1 (nI 0)) 3 2 (nI 0)) 3 3 (nI 0)) 3 4 (nI 0)) 3 5 (nI 0)) 3 6 (nI 0)), J, am_Rc32) (fun v h => am_V d Q 73 43 [some (.ref 3)] [] h) :=
  (am_D_un rfl (fun p => Nat.beq p 43 || Nat.beq p 51 || Nat.beq p 59 || Nat.beq p 67 || Nat.beq p 75 || Nat.beq p 82) 27).trans rfl
set_option maxRecDepth 100000 in
theorem q_Town_clear_43 {d : Nat} {Q : Value → am_H → Prop} {N : Nat} {I : Nat → Nat → Int32} {J : Nat → Nat → Int64} : am_V d Q 73 43 [some (.ref 3)] [] (92, am_Ts N 92, I, J, am_Rc32) =
    am_D d 294 [.ref 14, .int (nI 0)] (92, am_Ts N 92, I, J, am_Rc32) (fun v h => am_V d Q 73 51 [some (.ref 3)] [] h) :=
  (am_V_un (fun p => Nat.beq p 43 || Nat.beq p 51 || Nat.beq p 59 || Nat.beq p 67 || Nat.beq p 75 || Nat.beq p 82) 6).trans rfl
set_option maxRecDepth 100000 in
theorem q_Town_clear_51 {d : Nat} {Q : Value → am_H → Prop} {N : Nat} {I : Nat → Nat → Int32} {J : Nat → Nat → Int64} : am_V d Q 73 51 [some (.ref 3)] [] (92, am_Ts N 92, I, J, am_Rc32) =
    am_D d 294 [.ref 15, .int (nI 0)] (92, am_Ts N 92, I, J, am_Rc32) (fun v h => am_V d Q 73 59 [some (.ref 3)] [] h) :=
  (am_V_un (fun p => Nat.beq p 43 || Nat.beq p 51 || Nat.beq p 59 || Nat.beq p 67 || Nat.beq p 75 || Nat.beq p 82) 6).trans rfl
set_option maxRecDepth 100000 in
theorem q_Town_clear_59 {d : Nat} {Q : Value → am_H → Prop} {N : Nat} {I : Nat → Nat → Int32} {J : Nat → Nat → Int64} : am_V d Q 73 59 [some (.ref 3)] [] (92, am_Ts N 92, I, J, am_Rc32) =
    am_D d 294 [.ref 16, .int (nI 0)] (92, am_Ts N 92, I, J, am_Rc32) (fun v h => am_V d Q 73 67 [some (.ref 3)] [] h) :=
  (am_V_un (fun p => Nat.beq p 43 || Nat.beq p 51 || Nat.beq p 59 || Nat.beq p 67 || Nat.beq p 75 || Nat.beq p 82) 6).trans rfl
set_option maxRecDepth 100000 in
theorem q_Town_clear_67 {d : Nat} {Q : Value → am_H → Prop} {N : Nat} {I : Nat → Nat → Int32} {J : Nat → Nat → Int64} : am_V d Q 73 67 [some (.ref 3)] [] (92, am_Ts N 92, I, J, am_Rc32) =
    am_D d 294 [.ref 17, .int (nI 0)] (92, am_Ts N 92, I, J, am_Rc32) (fun v h => am_V d Q 73 75 [some (.ref 3)] [] h) :=
  (am_V_un (fun p => Nat.beq p 43 || Nat.beq p 51 || Nat.beq p 59 || Nat.beq p 67 || Nat.beq p 75 || Nat.beq p 82) 6).trans rfl
set_option maxRecDepth 100000 in
theorem q_Town_clear_75 {d : Nat} {Q : Value → am_H → Prop} {N : Nat} {I : Nat → Nat → Int32} {J : Nat → Nat → Int64} : am_V d Q 73 75 [some (.ref 3)] [] (92, am_Ts N 92, I, J, am_Rc32) =
    am_D d 11 [.ref 18] (92, am_Ts N 92, I, J, am_Rc32) (fun v h => am_V d Q 73 82 [some (.ref 3)] [] h) :=
  (am_V_un (fun p => Nat.beq p 43 || Nat.beq p 51 || Nat.beq p 59 || Nat.beq p 67 || Nat.beq p 75 || Nat.beq p 82) 5).trans rfl
set_option maxRecDepth 100000 in
theorem q_Town_clear_82 {d : Nat} {Q : Value → am_H → Prop} {N : Nat} {I : Nat → Nat → Int32} {J : Nat → Nat → Int64} : am_V d Q 73 82 [some (.ref 3)] [] (92, am_Ts N 92, I, J, am_Rc32) =
    Q .null (92, am_Ts N 92, I, J, am_Rc32) :=
  (am_V_un (fun p => Nat.beq p 43 || Nat.beq p 51 || Nat.beq p 59 || Nat.beq p 67 || Nat.beq p 75 || Nat.beq p 82) 3).trans rfl
set_option maxRecDepth 100000 in
theorem q_World_begin {d : Nat} {Q : Value → am_H → Prop} {N : Nat} {I : Nat → Nat → Int32} {J : Nat → Nat → Int64} : am_D (d + 1) 100 [.ref 49, .ref 3] (92, am_Ts N 92, I, J, am_Rc32) Q =
    am_D d 901 [.ref 9, .int (nI 0), .ref 50, .int (nI 0), .int (nI 5)] (92, am_Ts N 92, (am_u (am_u (am_u (am_u (am_u (am_u I 49 0 (nI 0)) 49 1 (nI 0)) 49 2 ((am_u (am_u I 49 0 (nI 0)) 49 1 (nI 0)) 3 6)) 49 3 (nI 0)) 49 4 (nI 0)) 49 5 (nI 0)), J, am_Rc32) (fun v h => am_V d Q 100 47 [some (.ref 49), some (.ref 3), none] [] h) :=
  (am_D_un rfl (fun p => Nat.beq p 47 || Nat.beq p 62 || Nat.beq p 70 || Nat.beq p 78 || Nat.beq p 86 || Nat.beq p 88) 29).trans rfl
set_option maxRecDepth 100000 in
theorem q_World_begin_47 {d : Nat} {Q : Value → am_H → Prop} {N : Nat} {I : Nat → Nat → Int32} {J : Nat → Nat → Int64} : am_V d Q 100 47 [some (.ref 49), some (.ref 3), none] [] (92, am_Ts N 92, I, J, am_Rc32) =
    am_D d 901 [.ref 16, .int (nI 0), .ref 54, .int (nI 0), .int (nI 8)] (92, am_Ts N 92, I, J, am_Rc32) (fun v h => am_V d Q 100 62 [some (.ref 49), some (.ref 3), none] [] h) :=
  (am_V_un (fun p => Nat.beq p 47 || Nat.beq p 62 || Nat.beq p 70 || Nat.beq p 78 || Nat.beq p 86 || Nat.beq p 88) 10).trans rfl
set_option maxRecDepth 100000 in
theorem q_World_begin_62 {d : Nat} {Q : Value → am_H → Prop} {N : Nat} {I : Nat → Nat → Int32} {J : Nat → Nat → Int64} : am_V d Q 100 62 [some (.ref 49), some (.ref 3), none] [] (92, am_Ts N 92, I, J, am_Rc32) =
    am_D d 294 [.ref 51, .int (nI 0)] (92, am_Ts N 92, I, J, am_Rc32) (fun v h => am_V d Q 100 70 [some (.ref 49), some (.ref 3), none] [] h) :=
  (am_V_un (fun p => Nat.beq p 47 || Nat.beq p 62 || Nat.beq p 70 || Nat.beq p 78 || Nat.beq p 86 || Nat.beq p 88) 6).trans rfl
set_option maxRecDepth 100000 in
theorem q_World_begin_70 {d : Nat} {Q : Value → am_H → Prop} {N : Nat} {I : Nat → Nat → Int32} {J : Nat → Nat → Int64} : am_V d Q 100 70 [some (.ref 49), some (.ref 3), none] [] (92, am_Ts N 92, I, J, am_Rc32) =
    am_D d 294 [.ref 52, .int (nI 0)] (92, am_Ts N 92, I, J, am_Rc32) (fun v h => am_V d Q 100 78 [some (.ref 49), some (.ref 3), none] [] h) :=
  (am_V_un (fun p => Nat.beq p 47 || Nat.beq p 62 || Nat.beq p 70 || Nat.beq p 78 || Nat.beq p 86 || Nat.beq p 88) 6).trans rfl
set_option maxRecDepth 100000 in
theorem q_World_begin_78 {d : Nat} {Q : Value → am_H → Prop} {N : Nat} {I : Nat → Nat → Int32} {J : Nat → Nat → Int64} : am_V d Q 100 78 [some (.ref 49), some (.ref 3), none] [] (92, am_Ts N 92, I, J, am_Rc32) =
    am_D d 294 [.ref 53, .int (-nI 1)] (92, am_Ts N 92, I, J, am_Rc32) (fun v h => am_V d Q 100 86 [some (.ref 49), some (.ref 3), none] [] h) :=
  (am_V_un (fun p => Nat.beq p 47 || Nat.beq p 62 || Nat.beq p 70 || Nat.beq p 78 || Nat.beq p 86 || Nat.beq p 88) 6).trans rfl
set_option maxRecDepth 100000 in
theorem q_World_begin_86 {d : Nat} {Q : Value → am_H → Prop} {N : Nat} {I : Nat → Nat → Int32} {J : Nat → Nat → Int64} : am_V d Q 100 86 [some (.ref 49), some (.ref 3), none] [] (92, am_Ts N 92, I, J, am_Rc32) =
    am_V d Q 100 88 [some (.ref 49), some (.ref 3), some (.int (nI 0))] [] (92, am_Ts N 92, I, J, am_Rc32) :=
  (am_V_un (fun p => Nat.beq p 47 || Nat.beq p 62 || Nat.beq p 70 || Nat.beq p 78 || Nat.beq p 86 || Nat.beq p 88) 4).trans rfl
set_option maxRecDepth 100000 in
theorem q_World_begin_88 {d : Nat} {Q : Value → am_H → Prop} {N : Nat} {I : Nat → Nat → Int32} {J : Nat → Nat → Int64} {x2 : Int32} : am_V d Q 100 88 [some (.ref 49), some (.ref 3), some (.int x2)] [] (92, am_Ts N 92, I, J, am_Rc32) =
    am_if (decide ((I 3 3) ≤ x2)) (Q .null (92, am_Ts N 92, I, J, am_Rc32)) (am_g (am_inb x2 8) (am_g (am_inb (I 12 x2.toNatClampNeg) 5) (am_g (am_inb (I 9 (I 12 x2.toNatClampNeg).toNatClampNeg) 8) (am_g (am_inb (I 9 (I 12 x2.toNatClampNeg).toNatClampNeg) 8) (am_V d Q 100 88 [some (.ref 49), some (.ref 3), some (.int (x2 + (nI 1)))] [] (92, am_Ts N 92, (am_u I 52 (I 9 (I 12 x2.toNatClampNeg).toNatClampNeg).toNatClampNeg ((I 52 (I 9 (I 12 x2.toNatClampNeg).toNatClampNeg).toNatClampNeg) ||| ((nI 1) <<< (x2 &&& nI 31)))), J, am_Rc32)))))) :=
  (am_V_un (fun p => Nat.beq p 47 || Nat.beq p 62 || Nat.beq p 70 || Nat.beq p 78 || Nat.beq p 86 || Nat.beq p 88) 24).trans rfl
set_option maxRecDepth 100000 in
theorem q_Reckoner_forget {d : Nat} {Q : Value → am_H → Prop} {N : Nat} {I : Nat → Nat → Int32} {J : Nat → Nat → Int64} : am_D (d + 1) 51 [.ref 62] (92, am_Ts N 92, I, J, am_Rc32) Q =
    am_D d 294 [.ref 63, .int (-nI 1)] (92, am_Ts N 92, I, J, am_Rc32) (fun v h => am_V d Q 51 8 [some (.ref 62)] [] h) :=
  (am_D_un rfl (fun p => Nat.beq p 8) 6).trans rfl
set_option maxRecDepth 100000 in
theorem q_Reckoner_forget_8 {d : Nat} {Q : Value → am_H → Prop} {N : Nat} {I : Nat → Nat → Int32} {J : Nat → Nat → Int64} : am_V d Q 51 8 [some (.ref 62)] [] (92, am_Ts N 92, I, J, am_Rc32) =
    Q .null (92, am_Ts N 92, I, J, am_Rc32) :=
  (am_V_un (fun p => Nat.beq p 8) 3).trans rfl
set_option maxRecDepth 100000 in
theorem q_Night_forget {d : Nat} {Q : Value → am_H → Prop} {N : Nat} {I : Nat → Nat → Int32} {J : Nat → Nat → Int64} : am_D (d + 1) 19 [.ref 61] (92, am_Ts N 92, I, J, am_Rc32) Q =
    am_D d 51 [.ref 62] (92, am_Ts N 92, I, J, am_Rc32) (fun v h => am_V d Q 19 7 [some (.ref 61)] [] h) :=
  (am_D_un rfl (fun p => Nat.beq p 7) 5).trans rfl
set_option maxRecDepth 100000 in
theorem q_Night_forget_7 {d : Nat} {Q : Value → am_H → Prop} {N : Nat} {I : Nat → Nat → Int32} {J : Nat → Nat → Int64} : am_V d Q 19 7 [some (.ref 61)] [] (92, am_Ts N 92, I, J, am_Rc32) =
    Q .null (92, am_Ts N 92, I, J, am_Rc32) :=
  (am_V_un (fun p => Nat.beq p 7) 3).trans rfl
set_option maxRecDepth 100000 in
theorem q_Sights_clear {d : Nat} {Q : Value → am_H → Prop} {N : Nat} {I : Nat → Nat → Int32} {J : Nat → Nat → Int64} : am_D (d + 1) 56 [.ref 72] (92, am_Ts N 92, I, J, am_Rc32) Q =
    Q .null (92, am_Ts N 92, (am_u (am_u I 72 0 (nI 0)) 72 1 (-nI 1)), J, am_Rc32) :=
  (am_D_un rfl (fun p => false) 9).trans rfl
set_option maxRecDepth 100000 in
theorem q_S_begin {d : Nat} {Q : Value → am_H → Prop} {N : Nat} {I : Nat → Nat → Int32} {J : Nat → Nat → Int64} : am_D (d + 1) 150 [.ref 1] (92, am_Ts N 92, I, J, am_Rc32) Q =
    am_D d 100 [.ref 49, .ref 3] (92, am_Ts N 92, I, J, am_Rc32) (fun v h => am_V d Q 150 11 [some (.ref 1)] [] h) :=
  (am_D_un rfl (fun p => Nat.beq p 11 || Nat.beq p 18 || Nat.beq p 25) 7).trans rfl
set_option maxRecDepth 100000 in
theorem q_S_begin_11 {d : Nat} {Q : Value → am_H → Prop} {N : Nat} {I : Nat → Nat → Int32} {J : Nat → Nat → Int64} : am_V d Q 150 11 [some (.ref 1)] [] (92, am_Ts N 92, I, J, am_Rc32) =
    am_D d 19 [.ref 61] (92, am_Ts N 92, I, J, am_Rc32) (fun v h => am_V d Q 150 18 [some (.ref 1)] [] h) :=
  (am_V_un (fun p => Nat.beq p 11 || Nat.beq p 18 || Nat.beq p 25) 5).trans rfl
set_option maxRecDepth 100000 in
theorem q_S_begin_18 {d : Nat} {Q : Value → am_H → Prop} {N : Nat} {I : Nat → Nat → Int32} {J : Nat → Nat → Int64} : am_V d Q 150 18 [some (.ref 1)] [] (92, am_Ts N 92, I, J, am_Rc32) =
    am_D d 56 [.ref 72] (92, am_Ts N 92, I, J, am_Rc32) (fun v h => am_V d Q 150 25 [some (.ref 1)] [] h) :=
  (am_V_un (fun p => Nat.beq p 11 || Nat.beq p 18 || Nat.beq p 25) 5).trans rfl
set_option maxRecDepth 100000 in
theorem q_S_begin_25 {d : Nat} {Q : Value → am_H → Prop} {N : Nat} {I : Nat → Nat → Int32} {J : Nat → Nat → Int64} : am_V d Q 150 25 [some (.ref 1)] [] (92, am_Ts N 92, I, J, am_Rc32) =
    Q .null (92, am_Ts N 92, (am_u (am_u I 1 7 (nI 0)) 77 0 (nI 0)), J, am_Rc32) :=
  (am_V_un (fun p => Nat.beq p 11 || Nat.beq p 18 || Nat.beq p 25) 10).trans rfl
set_option maxRecDepth 100000 in
theorem q_M_starts {d : Nat} {Q : Value → am_H → Prop} {N : Nat} {I : Nat → Nat → Int32} {J : Nat → Nat → Int64} {x1 : Int32} : am_D (d + 1) 203 [.ref 93, .int x1] (139, am_Ts N 139, I, J, am_Rc38) Q =
    am_g (am_inb x1 23) (am_g (am_inb x1 23) (am_g (am_inb x1 23) (am_g (am_inb x1 23) (am_g (am_inb x1 23) (am_V d Q 203 42 [some (.ref 93), some (.int x1), some (.int (nI 0))] [] (139, am_Ts N 139, (am_u (am_u (am_u (am_u (am_u I 118 x1.toNatClampNeg (nI 0)) 119 x1.toNatClampNeg (nI 0)) 120 x1.toNatClampNeg ((am_u (am_u I 118 x1.toNatClampNeg (nI 0)) 119 x1.toNatClampNeg (nI 0)) 95 5)) 121 x1.toNatClampNeg (nI 0)) 122 x1.toNatClampNeg (nI 0)), J, am_Rc38)))))) :=
  (am_D_un rfl (fun p => Nat.beq p 42 || Nat.beq p 76 || Nat.beq p 140) 32).trans rfl
set_option maxRecDepth 100000 in
theorem q_M_starts_42 {d : Nat} {Q : Value → am_H → Prop} {N : Nat} {I : Nat → Nat → Int32} {J : Nat → Nat → Int64} {x1 : Int32} {x2 : Int32} : am_V d Q 203 42 [some (.ref 93), some (.int x1), some (.int x2)] [] (139, am_Ts N 139, I, J, am_Rc38) =
    am_if (decide ((I 95 2) ≤ x2)) (am_V d Q 203 76 [some (.ref 93), some (.int x1), some (.int (nI 0))] [] (139, am_Ts N 139, I, J, am_Rc38)) (am_g (am_inb x2 10) (am_g (am_inb (((nI 5) * x1) + x2) 115) (am_V d Q 203 42 [some (.ref 93), some (.int x1), some (.int (x2 + (nI 1)))] [] (139, am_Ts N 139, (am_u I 123 (((nI 5) * x1) + x2).toNatClampNeg (I 104 x2.toNatClampNeg)), J, am_Rc38)))) :=
  (am_V_un (fun p => Nat.beq p 42 || Nat.beq p 76 || Nat.beq p 140) 22).trans rfl
set_option maxRecDepth 100000 in
theorem q_M_starts_76 {d : Nat} {Q : Value → am_H → Prop} {N : Nat} {I : Nat → Nat → Int32} {J : Nat → Nat → Int64} {x1 : Int32} {x2 : Int32} : am_V d Q 203 76 [some (.ref 93), some (.int x1), some (.int x2)] [] (139, am_Ts N 139, I, J, am_Rc38) =
    am_if (decide ((I 95 3) ≤ x2)) (am_V d Q 203 140 [some (.ref 93), some (.int x1), some (.int (nI 0))] [] (139, am_Ts N 139, I, J, am_Rc38)) (am_g (am_inb (((nI 8) * x1) + x2) 184) (am_g (am_inb x2 16) (am_g (am_inb ((am_u I 124 (((nI 8) * x1) + x2).toNatClampNeg (nI 0)) 107 x2.toNatClampNeg) 10) (am_g (am_inb (((nI 8) * x1) + x2) 184) (am_g (am_inb (((nI 8) * x1) + x2) 184) (am_V d Q 203 76 [some (.ref 93), some (.int x1), some (.int (x2 + (nI 1)))] [] (139, am_Ts N 139, (am_u (am_u (am_u I 124 (((nI 8) * x1) + x2).toNatClampNeg (nI 0)) 125 (((nI 8) * x1) + x2).toNatClampNeg ((am_u I 124 (((nI 8) * x1) + x2).toNatClampNeg (nI 0)) 104 ((am_u I 124 (((nI 8) * x1) + x2).toNatClampNeg (nI 0)) 107 x2.toNatClampNeg).toNatClampNeg)) 126 (((nI 8) * x1) + x2).toNatClampNeg (-nI 1)), J, am_Rc38))))))) :=
  (am_V_un (fun p => Nat.beq p 42 || Nat.beq p 76 || Nat.beq p 140) 43).trans rfl
set_option maxRecDepth 100000 in
theorem q_M_starts_140 {d : Nat} {Q : Value → am_H → Prop} {N : Nat} {I : Nat → Nat → Int32} {J : Nat → Nat → Int64} {x1 : Int32} {x2 : Int32} : am_V d Q 203 140 [some (.ref 93), some (.int x1), some (.int x2)] [] (139, am_Ts N 139, I, J, am_Rc38) =
    am_if (decide ((I 95 0) ≤ x2)) (Q .null (139, am_Ts N 139, I, J, am_Rc38)) (am_g (am_inb x2 16) (am_g (am_inb (((nI 8) * x1) + x2) 184) (am_V d Q 203 140 [some (.ref 93), some (.int x1), some (.int (x2 + (nI 1)))] [] (139, am_Ts N 139, (am_u I 127 (((nI 8) * x1) + x2).toNatClampNeg (I 97 x2.toNatClampNeg)), J, am_Rc38)))) :=
  (am_V_un (fun p => Nat.beq p 42 || Nat.beq p 76 || Nat.beq p 140) 22).trans rfl
set_option maxRecDepth 100000 in
theorem q_M_begins {d : Nat} {Q : Value → am_H → Prop} {N : Nat} {I : Nat → Nat → Int32} {J : Nat → Nat → Int64} : am_D (d + 1) 204 [.ref 93] (139, am_Ts N 139, I, J, am_Rc38) Q =
    am_D d 203 [.ref 93, .int (nI 0)] (139, am_Ts N 139, I, J, am_Rc38) (fun v h => am_V d Q 204 5 [some (.ref 93)] [] h) :=
  (am_D_un rfl (fun p => Nat.beq p 5) 5).trans rfl
set_option maxRecDepth 100000 in
theorem q_M_begins_5 {d : Nat} {Q : Value → am_H → Prop} {N : Nat} {I : Nat → Nat → Int32} {J : Nat → Nat → Int64} : am_V d Q 204 5 [some (.ref 93)] [] (139, am_Ts N 139, I, J, am_Rc38) =
    Q .null (139, am_Ts N 139, I, J, am_Rc38) :=
  (am_V_un (fun p => Nat.beq p 5) 3).trans rfl
def am_bd (R : Nat → Nat → Nat) : Prop := ∀ b k, 80 ≤ k → R b k = 0
def am_hi (R : Nat → Nat → Nat) : Prop := ∀ b k, 140 < b → R b k = am_RR0 b k
theorem am_bd_z {R : Nat → Nat → Nat} {a : Nat} (h : am_bd R) : am_bd (am_zR R a) := by
  intro b k hk
  unfold am_zR
  cases Nat.beq b a
  · exact h b k hk
  · rfl
theorem am_bd_u {R : Nat → Nat → Nat} {a j v : Nat} (hj : j < 80) (h : am_bd R) : am_bd (am_uR R a j v) := by
  intro b k hk
  unfold am_uR
  rw [show Nat.beq k j = false from am_beqf (by omega), Bool.and_false]
  exact h b k hk
theorem am_hi_z {R : Nat → Nat → Nat} {a : Nat} (ha : a ≤ 140) (h : am_hi R) : am_hi (am_zR R a) := by
  intro b k hk
  unfold am_zR
  rw [show Nat.beq b a = false from am_beqf (by omega)]
  exact h b k hk
theorem am_hi_u {R : Nat → Nat → Nat} {a j v : Nat} (ha : a ≤ 140) (h : am_hi R) : am_hi (am_uR R a j v) := by
  intro b k hk
  unfold am_uR
  rw [show Nat.beq b a = false from am_beqf (by omega), Bool.false_and]
  exact h b k hk
theorem am_RR_80 {r : am_rho} {m k : Nat} (hk : 80 ≤ k) : am_RR r m k = 0 := by
  have e : ∀ C, C ≤ 80 → Nat.ble C k = true := fun C hC => Nat.ble_eq_true_of_le (Nat.le_trans hC hk)
  unfold am_RR
  simp only [e 1 (by omega), e 2 (by omega), e 3 (by omega), e 4 (by omega), e 5 (by omega), e 6 (by omega), e 7 (by omega), e 8 (by omega), e 9 (by omega), e 10 (by omega), e 11 (by omega), e 12 (by omega), e 13 (by omega), e 22 (by omega), e 25 (by omega), e 28 (by omega), e 30 (by omega), e 33 (by omega), e 35 (by omega), e 50 (by omega), e 53 (by omega), e 55 (by omega), e 58 (by omega), e 60 (by omega), e 63 (by omega), e 68 (by omega), e 70 (by omega), e 79 (by omega), cond_true, Bool.cond_self, show Nat.beq k 0 = false from am_beqf (by omega), cond_false]
theorem am_bd_0 : am_bd am_Rc0 := by
  intro b k hk
  show (bif Nat.ble b 140 then 0 else am_RR (0, 0, 0, 0, 0, 0, 0, 0) b k) = 0
  rw [am_RR_80 hk, Bool.cond_self]
theorem am_hi_0 : am_hi am_Rc0 := fun _ _ _ => rfl
theorem am_bd_1 : am_bd am_Rc1 := (am_bd_z am_bd_0)
theorem am_hi_1 : am_hi am_Rc1 := (am_hi_z (by omega) am_hi_0)
theorem am_bd_2 : am_bd am_Rc2 := (am_bd_z (am_bd_u (by omega) (am_bd_z am_bd_1)))
theorem am_hi_2 : am_hi am_Rc2 := (am_hi_z (by omega) (am_hi_u (by omega) (am_hi_z (by omega) am_hi_1)))
theorem am_bd_3 : am_bd am_Rc3 := (am_bd_z (am_bd_u (by omega) (am_bd_z (am_bd_u (by omega) (am_bd_z (am_bd_u (by omega) (am_bd_z (am_bd_u (by omega) (am_bd_z (am_bd_u (by omega) (am_bd_z (am_bd_u (by omega) (am_bd_z (am_bd_u (by omega) (am_bd_z (am_bd_u (by omega) (am_bd_z (am_bd_u (by omega) (am_bd_z (am_bd_u (by omega) (am_bd_z (am_bd_u (by omega) (am_bd_z (am_bd_u (by omega) (am_bd_z (am_bd_u (by omega) (am_bd_z (am_bd_u (by omega) (am_bd_z am_bd_2)))))))))))))))))))))))))))))
theorem am_hi_3 : am_hi am_Rc3 := (am_hi_z (by omega) (am_hi_u (by omega) (am_hi_z (by omega) (am_hi_u (by omega) (am_hi_z (by omega) (am_hi_u (by omega) (am_hi_z (by omega) (am_hi_u (by omega) (am_hi_z (by omega) (am_hi_u (by omega) (am_hi_z (by omega) (am_hi_u (by omega) (am_hi_z (by omega) (am_hi_u (by omega) (am_hi_z (by omega) (am_hi_u (by omega) (am_hi_z (by omega) (am_hi_u (by omega) (am_hi_z (by omega) (am_hi_u (by omega) (am_hi_z (by omega) (am_hi_u (by omega) (am_hi_z (by omega) (am_hi_u (by omega) (am_hi_z (by omega) (am_hi_u (by omega) (am_hi_z (by omega) (am_hi_u (by omega) (am_hi_z (by omega) am_hi_2)))))))))))))))))))))))))))))
theorem am_bd_4 : am_bd am_Rc4 := (am_bd_u (by omega) (am_bd_z (am_bd_u (by omega) (am_bd_z (am_bd_u (by omega) (am_bd_z (am_bd_u (by omega) (am_bd_z am_bd_3))))))))
theorem am_hi_4 : am_hi am_Rc4 := (am_hi_u (by omega) (am_hi_z (by omega) (am_hi_u (by omega) (am_hi_z (by omega) (am_hi_u (by omega) (am_hi_z (by omega) (am_hi_u (by omega) (am_hi_z (by omega) am_hi_3))))))))
theorem am_bd_5 : am_bd am_Rc5 := (am_bd_u (by omega) am_bd_4)
theorem am_hi_5 : am_hi am_Rc5 := (am_hi_u (by omega) am_hi_4)
theorem am_bd_6 : am_bd am_Rc6 := (am_bd_z (am_bd_u (by omega) am_bd_5))
theorem am_hi_6 : am_hi am_Rc6 := (am_hi_z (by omega) (am_hi_u (by omega) am_hi_5))
theorem am_bd_7 : am_bd am_Rc7 := (am_bd_z (am_bd_u (by omega) (am_bd_z (am_bd_u (by omega) (am_bd_z (am_bd_u (by omega) (am_bd_z (am_bd_u (by omega) (am_bd_z (am_bd_u (by omega) (am_bd_z (am_bd_u (by omega) (am_bd_z (am_bd_u (by omega) (am_bd_z (am_bd_u (by omega) (am_bd_z (am_bd_u (by omega) (am_bd_z (am_bd_u (by omega) (am_bd_z (am_bd_u (by omega) (am_bd_z (am_bd_u (by omega) (am_bd_z (am_bd_u (by omega) (am_bd_z (am_bd_u (by omega) (am_bd_z am_bd_6)))))))))))))))))))))))))))))
theorem am_hi_7 : am_hi am_Rc7 := (am_hi_z (by omega) (am_hi_u (by omega) (am_hi_z (by omega) (am_hi_u (by omega) (am_hi_z (by omega) (am_hi_u (by omega) (am_hi_z (by omega) (am_hi_u (by omega) (am_hi_z (by omega) (am_hi_u (by omega) (am_hi_z (by omega) (am_hi_u (by omega) (am_hi_z (by omega) (am_hi_u (by omega) (am_hi_z (by omega) (am_hi_u (by omega) (am_hi_z (by omega) (am_hi_u (by omega) (am_hi_z (by omega) (am_hi_u (by omega) (am_hi_z (by omega) (am_hi_u (by omega) (am_hi_z (by omega) (am_hi_u (by omega) (am_hi_z (by omega) (am_hi_u (by omega) (am_hi_z (by omega) (am_hi_u (by omega) (am_hi_z (by omega) am_hi_6)))))))))))))))))))))))))))))
theorem am_bd_8 : am_bd am_Rc8 := (am_bd_u (by omega) (am_bd_z (am_bd_u (by omega) (am_bd_z (am_bd_u (by omega) (am_bd_z (am_bd_u (by omega) (am_bd_z am_bd_7))))))))
theorem am_hi_8 : am_hi am_Rc8 := (am_hi_u (by omega) (am_hi_z (by omega) (am_hi_u (by omega) (am_hi_z (by omega) (am_hi_u (by omega) (am_hi_z (by omega) (am_hi_u (by omega) (am_hi_z (by omega) am_hi_7))))))))
theorem am_bd_9 : am_bd am_Rc9 := (am_bd_u (by omega) am_bd_8)
theorem am_hi_9 : am_hi am_Rc9 := (am_hi_u (by omega) am_hi_8)
theorem am_bd_10 : am_bd am_Rc10 := (am_bd_z (am_bd_u (by omega) am_bd_9))
theorem am_hi_10 : am_hi am_Rc10 := (am_hi_z (by omega) (am_hi_u (by omega) am_hi_9))
theorem am_bd_11 : am_bd am_Rc11 := (am_bd_z am_bd_10)
theorem am_hi_11 : am_hi am_Rc11 := (am_hi_z (by omega) am_hi_10)
theorem am_bd_12 : am_bd am_Rc12 := (am_bd_u (by omega) (am_bd_z am_bd_11))
theorem am_hi_12 : am_hi am_Rc12 := (am_hi_u (by omega) (am_hi_z (by omega) am_hi_11))
theorem am_bd_13 : am_bd am_Rc13 := (am_bd_z (am_bd_u (by omega) (am_bd_u (by omega) am_bd_12)))
theorem am_hi_13 : am_hi am_Rc13 := (am_hi_z (by omega) (am_hi_u (by omega) (am_hi_u (by omega) am_hi_12)))
theorem am_bd_14 : am_bd am_Rc14 := (am_bd_u (by omega) (am_bd_u (by omega) (am_bd_u (by omega) (am_bd_z (am_bd_u (by omega) (am_bd_z am_bd_13))))))
theorem am_hi_14 : am_hi am_Rc14 := (am_hi_u (by omega) (am_hi_u (by omega) (am_hi_u (by omega) (am_hi_z (by omega) (am_hi_u (by omega) (am_hi_z (by omega) am_hi_13))))))
theorem am_bd_15 : am_bd am_Rc15 := (am_bd_u (by omega) am_bd_14)
theorem am_hi_15 : am_hi am_Rc15 := (am_hi_u (by omega) am_hi_14)
theorem am_bd_16 : am_bd am_Rc16 := (am_bd_z (am_bd_u (by omega) am_bd_15))
theorem am_hi_16 : am_hi am_Rc16 := (am_hi_z (by omega) (am_hi_u (by omega) am_hi_15))
theorem am_bd_17 : am_bd am_Rc17 := (am_bd_u (by omega) (am_bd_z (am_bd_u (by omega) (am_bd_z (am_bd_u (by omega) (am_bd_z (am_bd_u (by omega) (am_bd_z (am_bd_u (by omega) (am_bd_z am_bd_16))))))))))
theorem am_hi_17 : am_hi am_Rc17 := (am_hi_u (by omega) (am_hi_z (by omega) (am_hi_u (by omega) (am_hi_z (by omega) (am_hi_u (by omega) (am_hi_z (by omega) (am_hi_u (by omega) (am_hi_z (by omega) (am_hi_u (by omega) (am_hi_z (by omega) am_hi_16))))))))))
theorem am_bd_18 : am_bd am_Rc18 := (am_bd_z (am_bd_u (by omega) am_bd_17))
theorem am_hi_18 : am_hi am_Rc18 := (am_hi_z (by omega) (am_hi_u (by omega) am_hi_17))
theorem am_bd_19 : am_bd am_Rc19 := (am_bd_u (by omega) (am_bd_z (am_bd_u (by omega) (am_bd_z (am_bd_u (by omega) (am_bd_z (am_bd_u (by omega) (am_bd_z (am_bd_u (by omega) (am_bd_z am_bd_18))))))))))
theorem am_hi_19 : am_hi am_Rc19 := (am_hi_u (by omega) (am_hi_z (by omega) (am_hi_u (by omega) (am_hi_z (by omega) (am_hi_u (by omega) (am_hi_z (by omega) (am_hi_u (by omega) (am_hi_z (by omega) (am_hi_u (by omega) (am_hi_z (by omega) am_hi_18))))))))))
theorem am_bd_20 : am_bd am_Rc20 := (am_bd_z (am_bd_u (by omega) am_bd_19))
theorem am_hi_20 : am_hi am_Rc20 := (am_hi_z (by omega) (am_hi_u (by omega) am_hi_19))
theorem am_bd_21 : am_bd am_Rc21 := (am_bd_z am_bd_20)
theorem am_hi_21 : am_hi am_Rc21 := (am_hi_z (by omega) am_hi_20)
theorem am_bd_22 : am_bd am_Rc22 := (am_bd_u (by omega) (am_bd_z (am_bd_u (by omega) (am_bd_z (am_bd_u (by omega) (am_bd_z am_bd_21))))))
theorem am_hi_22 : am_hi am_Rc22 := (am_hi_u (by omega) (am_hi_z (by omega) (am_hi_u (by omega) (am_hi_z (by omega) (am_hi_u (by omega) (am_hi_z (by omega) am_hi_21))))))
theorem am_bd_23 : am_bd am_Rc23 := (am_bd_u (by omega) (am_bd_u (by omega) (am_bd_u (by omega) (am_bd_u (by omega) (am_bd_z (am_bd_u (by omega) (am_bd_z (am_bd_u (by omega) (am_bd_z (am_bd_u (by omega) (am_bd_z (am_bd_u (by omega) (am_bd_z (am_bd_u (by omega) (am_bd_z (am_bd_u (by omega) am_bd_22))))))))))))))))
theorem am_hi_23 : am_hi am_Rc23 := (am_hi_u (by omega) (am_hi_u (by omega) (am_hi_u (by omega) (am_hi_u (by omega) (am_hi_z (by omega) (am_hi_u (by omega) (am_hi_z (by omega) (am_hi_u (by omega) (am_hi_z (by omega) (am_hi_u (by omega) (am_hi_z (by omega) (am_hi_u (by omega) (am_hi_z (by omega) (am_hi_u (by omega) (am_hi_z (by omega) (am_hi_u (by omega) am_hi_22))))))))))))))))
theorem am_bd_24 : am_bd am_Rc24 := (am_bd_z (am_bd_u (by omega) am_bd_23))
theorem am_hi_24 : am_hi am_Rc24 := (am_hi_z (by omega) (am_hi_u (by omega) am_hi_23))
theorem am_bd_25 : am_bd am_Rc25 := (am_bd_u (by omega) (am_bd_z (am_bd_u (by omega) (am_bd_z (am_bd_u (by omega) (am_bd_z (am_bd_u (by omega) (am_bd_z am_bd_24))))))))
theorem am_hi_25 : am_hi am_Rc25 := (am_hi_u (by omega) (am_hi_z (by omega) (am_hi_u (by omega) (am_hi_z (by omega) (am_hi_u (by omega) (am_hi_z (by omega) (am_hi_u (by omega) (am_hi_z (by omega) am_hi_24))))))))
theorem am_bd_26 : am_bd am_Rc26 := (am_bd_z (am_bd_u (by omega) am_bd_25))
theorem am_hi_26 : am_hi am_Rc26 := (am_hi_z (by omega) (am_hi_u (by omega) am_hi_25))
theorem am_bd_27 : am_bd am_Rc27 := (am_bd_u (by omega) (am_bd_z (am_bd_u (by omega) (am_bd_z (am_bd_u (by omega) (am_bd_z am_bd_26))))))
theorem am_hi_27 : am_hi am_Rc27 := (am_hi_u (by omega) (am_hi_z (by omega) (am_hi_u (by omega) (am_hi_z (by omega) (am_hi_u (by omega) (am_hi_z (by omega) am_hi_26))))))
theorem am_bd_28 : am_bd am_Rc28 := (am_bd_z (am_bd_u (by omega) am_bd_27))
theorem am_hi_28 : am_hi am_Rc28 := (am_hi_z (by omega) (am_hi_u (by omega) am_hi_27))
theorem am_bd_29 : am_bd am_Rc29 := (am_bd_z am_bd_28)
theorem am_hi_29 : am_hi am_Rc29 := (am_hi_z (by omega) am_hi_28)
theorem am_bd_30 : am_bd am_Rc30 := (am_bd_u (by omega) (am_bd_z (am_bd_u (by omega) (am_bd_z (am_bd_u (by omega) (am_bd_z (am_bd_u (by omega) (am_bd_z (am_bd_u (by omega) (am_bd_z am_bd_29))))))))))
theorem am_hi_30 : am_hi am_Rc30 := (am_hi_u (by omega) (am_hi_z (by omega) (am_hi_u (by omega) (am_hi_z (by omega) (am_hi_u (by omega) (am_hi_z (by omega) (am_hi_u (by omega) (am_hi_z (by omega) (am_hi_u (by omega) (am_hi_z (by omega) am_hi_29))))))))))
theorem am_bd_31 : am_bd am_Rc31 := (am_bd_u (by omega) (am_bd_u (by omega) (am_bd_u (by omega) (am_bd_u (by omega) (am_bd_z (am_bd_u (by omega) (am_bd_z (am_bd_u (by omega) (am_bd_z (am_bd_u (by omega) (am_bd_z (am_bd_u (by omega) (am_bd_z (am_bd_u (by omega) am_bd_30))))))))))))))
theorem am_hi_31 : am_hi am_Rc31 := (am_hi_u (by omega) (am_hi_u (by omega) (am_hi_u (by omega) (am_hi_u (by omega) (am_hi_z (by omega) (am_hi_u (by omega) (am_hi_z (by omega) (am_hi_u (by omega) (am_hi_z (by omega) (am_hi_u (by omega) (am_hi_z (by omega) (am_hi_u (by omega) (am_hi_z (by omega) (am_hi_u (by omega) am_hi_30))))))))))))))
theorem am_bd_32 : am_bd am_Rc32 := (am_bd_u (by omega) am_bd_31)
theorem am_hi_32 : am_hi am_Rc32 := (am_hi_u (by omega) am_hi_31)
theorem am_bd_33 : am_bd am_Rc33 := (am_bd_z am_bd_32)
theorem am_hi_33 : am_hi am_Rc33 := (am_hi_z (by omega) am_hi_32)
theorem am_bd_34 : am_bd am_Rc34 := (am_bd_u (by omega) (am_bd_z (am_bd_u (by omega) (am_bd_z (am_bd_u (by omega) (am_bd_z (am_bd_u (by omega) (am_bd_z (am_bd_u (by omega) (am_bd_z (am_bd_u (by omega) (am_bd_z (am_bd_u (by omega) (am_bd_z (am_bd_u (by omega) (am_bd_z (am_bd_u (by omega) (am_bd_z (am_bd_u (by omega) (am_bd_z am_bd_33))))))))))))))))))))
theorem am_hi_34 : am_hi am_Rc34 := (am_hi_u (by omega) (am_hi_z (by omega) (am_hi_u (by omega) (am_hi_z (by omega) (am_hi_u (by omega) (am_hi_z (by omega) (am_hi_u (by omega) (am_hi_z (by omega) (am_hi_u (by omega) (am_hi_z (by omega) (am_hi_u (by omega) (am_hi_z (by omega) (am_hi_u (by omega) (am_hi_z (by omega) (am_hi_u (by omega) (am_hi_z (by omega) (am_hi_u (by omega) (am_hi_z (by omega) (am_hi_u (by omega) (am_hi_z (by omega) am_hi_33))))))))))))))))))))
theorem am_bd_35 : am_bd am_Rc35 := (am_bd_u (by omega) (am_bd_z (am_bd_u (by omega) (am_bd_z (am_bd_u (by omega) (am_bd_z (am_bd_u (by omega) (am_bd_z (am_bd_u (by omega) (am_bd_z (am_bd_u (by omega) (am_bd_z (am_bd_u (by omega) (am_bd_z (am_bd_u (by omega) (am_bd_z (am_bd_u (by omega) (am_bd_z (am_bd_u (by omega) (am_bd_z am_bd_34))))))))))))))))))))
theorem am_hi_35 : am_hi am_Rc35 := (am_hi_u (by omega) (am_hi_z (by omega) (am_hi_u (by omega) (am_hi_z (by omega) (am_hi_u (by omega) (am_hi_z (by omega) (am_hi_u (by omega) (am_hi_z (by omega) (am_hi_u (by omega) (am_hi_z (by omega) (am_hi_u (by omega) (am_hi_z (by omega) (am_hi_u (by omega) (am_hi_z (by omega) (am_hi_u (by omega) (am_hi_z (by omega) (am_hi_u (by omega) (am_hi_z (by omega) (am_hi_u (by omega) (am_hi_z (by omega) am_hi_34))))))))))))))))))))
theorem am_bd_36 : am_bd am_Rc36 := (am_bd_u (by omega) (am_bd_z (am_bd_u (by omega) (am_bd_z (am_bd_u (by omega) (am_bd_z (am_bd_u (by omega) (am_bd_z (am_bd_u (by omega) (am_bd_z (am_bd_u (by omega) (am_bd_z (am_bd_u (by omega) (am_bd_z (am_bd_u (by omega) (am_bd_z (am_bd_u (by omega) (am_bd_z (am_bd_u (by omega) (am_bd_z am_bd_35))))))))))))))))))))
theorem am_hi_36 : am_hi am_Rc36 := (am_hi_u (by omega) (am_hi_z (by omega) (am_hi_u (by omega) (am_hi_z (by omega) (am_hi_u (by omega) (am_hi_z (by omega) (am_hi_u (by omega) (am_hi_z (by omega) (am_hi_u (by omega) (am_hi_z (by omega) (am_hi_u (by omega) (am_hi_z (by omega) (am_hi_u (by omega) (am_hi_z (by omega) (am_hi_u (by omega) (am_hi_z (by omega) (am_hi_u (by omega) (am_hi_z (by omega) (am_hi_u (by omega) (am_hi_z (by omega) am_hi_35))))))))))))))))))))
theorem am_bd_37 : am_bd am_Rc37 := (am_bd_u (by omega) (am_bd_z (am_bd_u (by omega) (am_bd_z (am_bd_u (by omega) (am_bd_z (am_bd_u (by omega) (am_bd_z (am_bd_u (by omega) (am_bd_z (am_bd_u (by omega) (am_bd_z (am_bd_u (by omega) (am_bd_z (am_bd_u (by omega) (am_bd_z (am_bd_u (by omega) (am_bd_z (am_bd_u (by omega) (am_bd_z am_bd_36))))))))))))))))))))
theorem am_hi_37 : am_hi am_Rc37 := (am_hi_u (by omega) (am_hi_z (by omega) (am_hi_u (by omega) (am_hi_z (by omega) (am_hi_u (by omega) (am_hi_z (by omega) (am_hi_u (by omega) (am_hi_z (by omega) (am_hi_u (by omega) (am_hi_z (by omega) (am_hi_u (by omega) (am_hi_z (by omega) (am_hi_u (by omega) (am_hi_z (by omega) (am_hi_u (by omega) (am_hi_z (by omega) (am_hi_u (by omega) (am_hi_z (by omega) (am_hi_u (by omega) (am_hi_z (by omega) am_hi_36))))))))))))))))))))
theorem am_bd_38 : am_bd am_Rc38 := (am_bd_u (by omega) (am_bd_z (am_bd_u (by omega) (am_bd_z (am_bd_u (by omega) (am_bd_z (am_bd_u (by omega) (am_bd_z (am_bd_u (by omega) (am_bd_z (am_bd_u (by omega) (am_bd_z am_bd_37))))))))))))
theorem am_hi_38 : am_hi am_Rc38 := (am_hi_u (by omega) (am_hi_z (by omega) (am_hi_u (by omega) (am_hi_z (by omega) (am_hi_u (by omega) (am_hi_z (by omega) (am_hi_u (by omega) (am_hi_z (by omega) (am_hi_u (by omega) (am_hi_z (by omega) (am_hi_u (by omega) (am_hi_z (by omega) am_hi_37))))))))))))
