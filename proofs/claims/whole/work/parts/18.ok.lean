/-! every row is right -/
theorem am_ok_0 : ∀ m, 0 ≤ m → m < 12 → am_okM m = true := by
  have h : (List.range' 0 12).all am_okM = true := by decide +kernel
  intro m h1 h2
  exact List.all_eq_true.mp h m (List.mem_range'_1.mpr ⟨h1, by omega⟩)
theorem am_ok_1 : ∀ m, 12 ≤ m → m < 27 → am_okM m = true := by
  have h : (List.range' 12 15).all am_okM = true := by decide +kernel
  intro m h1 h2
  exact List.all_eq_true.mp h m (List.mem_range'_1.mpr ⟨h1, by omega⟩)
theorem am_ok_2 : ∀ m, 27 ≤ m → m < 42 → am_okM m = true := by
  have h : (List.range' 27 15).all am_okM = true := by decide +kernel
  intro m h1 h2
  exact List.all_eq_true.mp h m (List.mem_range'_1.mpr ⟨h1, by omega⟩)
theorem am_ok_3 : ∀ m, 42 ≤ m → m < 53 → am_okM m = true := by
  have h : (List.range' 42 11).all am_okM = true := by decide +kernel
  intro m h1 h2
  exact List.all_eq_true.mp h m (List.mem_range'_1.mpr ⟨h1, by omega⟩)
theorem am_ok_4 : ∀ m, 53 ≤ m → m < 64 → am_okM m = true := by
  have h : (List.range' 53 11).all am_okM = true := by decide +kernel
  intro m h1 h2
  exact List.all_eq_true.mp h m (List.mem_range'_1.mpr ⟨h1, by omega⟩)
theorem am_ok_5 : ∀ m, 64 ≤ m → m < 74 → am_okM m = true := by
  have h : (List.range' 64 10).all am_okM = true := by decide +kernel
  intro m h1 h2
  exact List.all_eq_true.mp h m (List.mem_range'_1.mpr ⟨h1, by omega⟩)
theorem am_ok_6 : ∀ m, 74 ≤ m → m < 87 → am_okM m = true := by
  have h : (List.range' 74 13).all am_okM = true := by decide +kernel
  intro m h1 h2
  exact List.all_eq_true.mp h m (List.mem_range'_1.mpr ⟨h1, by omega⟩)
theorem am_ok_7 : ∀ m, 87 ≤ m → m < 97 → am_okM m = true := by
  have h : (List.range' 87 10).all am_okM = true := by decide +kernel
  intro m h1 h2
  exact List.all_eq_true.mp h m (List.mem_range'_1.mpr ⟨h1, by omega⟩)
theorem am_ok_8 : ∀ m, 97 ≤ m → m < 111 → am_okM m = true := by
  have h : (List.range' 97 14).all am_okM = true := by decide +kernel
  intro m h1 h2
  exact List.all_eq_true.mp h m (List.mem_range'_1.mpr ⟨h1, by omega⟩)
theorem am_ok_9 : ∀ m, 111 ≤ m → m < 125 → am_okM m = true := by
  have h : (List.range' 111 14).all am_okM = true := by decide +kernel
  intro m h1 h2
  exact List.all_eq_true.mp h m (List.mem_range'_1.mpr ⟨h1, by omega⟩)
theorem am_ok_10 : ∀ m, 125 ≤ m → m < 143 → am_okM m = true := by
  have h : (List.range' 125 18).all am_okM = true := by decide +kernel
  intro m h1 h2
  exact List.all_eq_true.mp h m (List.mem_range'_1.mpr ⟨h1, by omega⟩)
theorem am_ok_11 : ∀ m, 143 ≤ m → m < 158 → am_okM m = true := by
  have h : (List.range' 143 15).all am_okM = true := by decide +kernel
  intro m h1 h2
  exact List.all_eq_true.mp h m (List.mem_range'_1.mpr ⟨h1, by omega⟩)
theorem am_ok_12 : ∀ m, 158 ≤ m → m < 165 → am_okM m = true := by
  have h : (List.range' 158 7).all am_okM = true := by decide +kernel
  intro m h1 h2
  exact List.all_eq_true.mp h m (List.mem_range'_1.mpr ⟨h1, by omega⟩)
theorem am_ok_13 : ∀ m, 165 ≤ m → m < 182 → am_okM m = true := by
  have h : (List.range' 165 17).all am_okM = true := by decide +kernel
  intro m h1 h2
  exact List.all_eq_true.mp h m (List.mem_range'_1.mpr ⟨h1, by omega⟩)
theorem am_ok_14 : ∀ m, 182 ≤ m → m < 187 → am_okM m = true := by
  have h : (List.range' 182 5).all am_okM = true := by decide +kernel
  intro m h1 h2
  exact List.all_eq_true.mp h m (List.mem_range'_1.mpr ⟨h1, by omega⟩)
theorem am_ok_15 : ∀ m, 187 ≤ m → m < 197 → am_okM m = true := by
  have h : (List.range' 187 10).all am_okM = true := by decide +kernel
  intro m h1 h2
  exact List.all_eq_true.mp h m (List.mem_range'_1.mpr ⟨h1, by omega⟩)
theorem am_ok_16 : ∀ m, 197 ≤ m → m < 205 → am_okM m = true := by
  have h : (List.range' 197 8).all am_okM = true := by decide +kernel
  intro m h1 h2
  exact List.all_eq_true.mp h m (List.mem_range'_1.mpr ⟨h1, by omega⟩)
theorem am_ok_17 : ∀ m, 205 ≤ m → m < 214 → am_okM m = true := by
  have h : (List.range' 205 9).all am_okM = true := by decide +kernel
  intro m h1 h2
  exact List.all_eq_true.mp h m (List.mem_range'_1.mpr ⟨h1, by omega⟩)
theorem am_ok_18 : ∀ m, 214 ≤ m → m < 227 → am_okM m = true := by
  have h : (List.range' 214 13).all am_okM = true := by decide +kernel
  intro m h1 h2
  exact List.all_eq_true.mp h m (List.mem_range'_1.mpr ⟨h1, by omega⟩)
theorem am_ok_19 : ∀ m, 227 ≤ m → m < 238 → am_okM m = true := by
  have h : (List.range' 227 11).all am_okM = true := by decide +kernel
  intro m h1 h2
  exact List.all_eq_true.mp h m (List.mem_range'_1.mpr ⟨h1, by omega⟩)
theorem am_ok_20 : ∀ m, 238 ≤ m → m < 249 → am_okM m = true := by
  have h : (List.range' 238 11).all am_okM = true := by decide +kernel
  intro m h1 h2
  exact List.all_eq_true.mp h m (List.mem_range'_1.mpr ⟨h1, by omega⟩)
theorem am_ok_21 : ∀ m, 249 ≤ m → m < 258 → am_okM m = true := by
  have h : (List.range' 249 9).all am_okM = true := by decide +kernel
  intro m h1 h2
  exact List.all_eq_true.mp h m (List.mem_range'_1.mpr ⟨h1, by omega⟩)
theorem am_ok_22 : ∀ m, 258 ≤ m → m < 270 → am_okM m = true := by
  have h : (List.range' 258 12).all am_okM = true := by decide +kernel
  intro m h1 h2
  exact List.all_eq_true.mp h m (List.mem_range'_1.mpr ⟨h1, by omega⟩)
theorem am_ok_23 : ∀ m, 270 ≤ m → m < 291 → am_okM m = true := by
  have h : (List.range' 270 21).all am_okM = true := by decide +kernel
  intro m h1 h2
  exact List.all_eq_true.mp h m (List.mem_range'_1.mpr ⟨h1, by omega⟩)
theorem am_ok_24 : ∀ m, 291 ≤ m → m < 296 → am_okM m = true := by
  have h : (List.range' 291 5).all am_okM = true := by decide +kernel
  intro m h1 h2
  exact List.all_eq_true.mp h m (List.mem_range'_1.mpr ⟨h1, by omega⟩)
theorem am_okl_0 : ((am_p296.drop 0).take 40).all (am_okR 296) = true := by decide +kernel
theorem am_okl_40 : ((am_p296.drop 40).take 40).all (am_okR 296) = true := by decide +kernel
theorem am_okl_80 : ((am_p296.drop 80).take 40).all (am_okR 296) = true := by decide +kernel
theorem am_okl_120 : ((am_p296.drop 120).take 40).all (am_okR 296) = true := by decide +kernel
theorem am_okl_160 : ((am_p296.drop 160).take 40).all (am_okR 296) = true := by decide +kernel
theorem am_okl_200 : ((am_p296.drop 200).take 40).all (am_okR 296) = true := by decide +kernel
theorem am_okl_240 : ((am_p296.drop 240).take 40).all (am_okR 296) = true := by decide +kernel
theorem am_okl_280 : ((am_p296.drop 280).take 40).all (am_okR 296) = true := by decide +kernel
theorem am_okl_320 : ((am_p296.drop 320).take 40).all (am_okR 296) = true := by decide +kernel
theorem am_okl_360 : ((am_p296.drop 360).take 40).all (am_okR 296) = true := by decide +kernel
theorem am_okl_400 : ((am_p296.drop 400).take 40).all (am_okR 296) = true := by decide +kernel
theorem am_okl_440 : ((am_p296.drop 440).take 40).all (am_okR 296) = true := by decide +kernel
theorem am_okl_480 : ((am_p296.drop 480).take 40).all (am_okR 296) = true := by decide +kernel
theorem am_okl_520 : ((am_p296.drop 520).take 40).all (am_okR 296) = true := by decide +kernel
theorem am_okl_560 : ((am_p296.drop 560).take 40).all (am_okR 296) = true := by decide +kernel
theorem am_okl_600 : ((am_p296.drop 600).take 40).all (am_okR 296) = true := by decide +kernel
theorem am_okl_640 : ((am_p296.drop 640).take 40).all (am_okR 296) = true := by decide +kernel
theorem am_okl_680 : ((am_p296.drop 680).take 40).all (am_okR 296) = true := by decide +kernel
theorem am_okl_720 : ((am_p296.drop 720).take 40).all (am_okR 296) = true := by decide +kernel
theorem am_okl_760 : ((am_p296.drop 760).take 40).all (am_okR 296) = true := by decide +kernel
theorem am_okl_800 : ((am_p296.drop 800).take 40).all (am_okR 296) = true := by decide +kernel
theorem am_okl_840 : ((am_p296.drop 840).take 40).all (am_okR 296) = true := by decide +kernel
theorem am_all_drop {α : Type} {f : α → Bool} {l : List α} {k n : Nat} (h1 : ((l.drop k).take n).all f = true) (h2 : (l.drop (k + n)).all f = true) : (l.drop k).all f = true := by
  rw [← List.take_append_drop n (l.drop k), List.all_append, h1, List.drop_drop, h2]; rfl
theorem am_okl : (am_p296.drop 0).all (am_okR 296) = true := (am_all_drop (k := 0) (n := 40) am_okl_0 (am_all_drop (k := 40) (n := 40) am_okl_40 (am_all_drop (k := 80) (n := 40) am_okl_80 (am_all_drop (k := 120) (n := 40) am_okl_120 (am_all_drop (k := 160) (n := 40) am_okl_160 (am_all_drop (k := 200) (n := 40) am_okl_200 (am_all_drop (k := 240) (n := 40) am_okl_240 (am_all_drop (k := 280) (n := 40) am_okl_280 (am_all_drop (k := 320) (n := 40) am_okl_320 (am_all_drop (k := 360) (n := 40) am_okl_360 (am_all_drop (k := 400) (n := 40) am_okl_400 (am_all_drop (k := 440) (n := 40) am_okl_440 (am_all_drop (k := 480) (n := 40) am_okl_480 (am_all_drop (k := 520) (n := 40) am_okl_520 (am_all_drop (k := 560) (n := 40) am_okl_560 (am_all_drop (k := 600) (n := 40) am_okl_600 (am_all_drop (k := 640) (n := 40) am_okl_640 (am_all_drop (k := 680) (n := 40) am_okl_680 (am_all_drop (k := 720) (n := 40) am_okl_720 (am_all_drop (k := 760) (n := 40) am_okl_760 (am_all_drop (k := 800) (n := 40) am_okl_800 (am_all_drop (k := 840) (n := 40) am_okl_840 (by decide +kernel)))))))))))))))))))))))
theorem am_okl2 : (am_ch am_p296 && (Nat.ble (am_tb 296).2 40 && (Nat.beq (am_tb 296).1.2.2.1 (am_co 296).1 && (Nat.beq (am_tb 296).1.2.2.2 (am_co 296).2 && Nat.beq ((am_tb 296).1.1.headD (1, .nop, 0, 0, 0, 0, 0)).1 0)))) = true := by decide +kernel
theorem am_ok_law : am_okM 296 = true := by
  show ((am_p296.drop 0).all (am_okR 296) && (am_ch am_p296 && (Nat.ble (am_tb 296).2 40 && (Nat.beq (am_tb 296).1.2.2.1 (am_co 296).1 && (Nat.beq (am_tb 296).1.2.2.2 (am_co 296).2 && Nat.beq ((am_tb 296).1.1.headD (1, .nop, 0, 0, 0, 0, 0)).1 0))))) = true
  rw [am_okl, am_okl2]; rfl
theorem am_ok (m : Nat) (h : m < 297) : am_okM m = true := by
  by_cases h0 : m < 12
  · exact am_ok_0 m (by omega) h0
  by_cases h1 : m < 27
  · exact am_ok_1 m (by omega) h1
  by_cases h2 : m < 42
  · exact am_ok_2 m (by omega) h2
  by_cases h3 : m < 53
  · exact am_ok_3 m (by omega) h3
  by_cases h4 : m < 64
  · exact am_ok_4 m (by omega) h4
  by_cases h5 : m < 74
  · exact am_ok_5 m (by omega) h5
  by_cases h6 : m < 87
  · exact am_ok_6 m (by omega) h6
  by_cases h7 : m < 97
  · exact am_ok_7 m (by omega) h7
  by_cases h8 : m < 111
  · exact am_ok_8 m (by omega) h8
  by_cases h9 : m < 125
  · exact am_ok_9 m (by omega) h9
  by_cases h10 : m < 143
  · exact am_ok_10 m (by omega) h10
  by_cases h11 : m < 158
  · exact am_ok_11 m (by omega) h11
  by_cases h12 : m < 165
  · exact am_ok_12 m (by omega) h12
  by_cases h13 : m < 182
  · exact am_ok_13 m (by omega) h13
  by_cases h14 : m < 187
  · exact am_ok_14 m (by omega) h14
  by_cases h15 : m < 197
  · exact am_ok_15 m (by omega) h15
  by_cases h16 : m < 205
  · exact am_ok_16 m (by omega) h16
  by_cases h17 : m < 214
  · exact am_ok_17 m (by omega) h17
  by_cases h18 : m < 227
  · exact am_ok_18 m (by omega) h18
  by_cases h19 : m < 238
  · exact am_ok_19 m (by omega) h19
  by_cases h20 : m < 249
  · exact am_ok_20 m (by omega) h20
  by_cases h21 : m < 258
  · exact am_ok_21 m (by omega) h21
  by_cases h22 : m < 270
  · exact am_ok_22 m (by omega) h22
  by_cases h23 : m < 291
  · exact am_ok_23 m (by omega) h23
  by_cases h24 : m < 296
  · exact am_ok_24 m (by omega) h24
  have e : m = 296 := by omega
  subst e
  exact am_ok_law
