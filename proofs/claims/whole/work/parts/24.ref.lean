/-! ===== what the references hold (by gen_mir.py) ===== -/
def zNl (a : Nat) : Nat := if a = 44 ∨ a = 67 then 42 else if a = 46 ∨ a = 69 then 48 else 36
/-- class, field; kind, length, address (1: behind the object) -/
def zFt : List (Nat × Nat × Nat × Nat × Nat × Nat) := [(0, 0, 100, 6, 0, 21), (0, 2, 100, 6, 0, 22), (0, 3, 100, 48, 0, 23), (1, 0, 100, 10, 0, 11), (2, 4, 100, 16, 0, 25), (2, 5, 100, 16, 0, 26), (2, 6, 100, 217, 0, 27), (3, 0, 100, 1600, 1, 1), (3, 1, 100, 64, 1, 2), (4, 0, 8, 0, 0, 1), (5, 0, 6, 0, 1, 1), (5, 1, 6, 0, 1, 3), (5, 2, 6, 0, 1, 5), (5, 3, 100, 49, 1, 7), (5, 4, 100, 49, 1, 8), (5, 5, 100, 49, 1, 9), (5, 6, 100, 8, 1, 10), (5, 7, 100, 8, 1, 11), (5, 8, 100, 8, 1, 12), (5, 9, 100, 6, 1, 13), (5, 10, 100, 6, 1, 14), (5, 11, 100, 6, 1, 15), (5, 12, 100, 6, 1, 16), (5, 13, 3, 0, 1, 17), (5, 14, 3, 0, 1, 20), (7, 0, 100, 8, 1, 1), (7, 1, 100, 6, 1, 2), (7, 2, 100, 6, 1, 3), (7, 3, 100, 6, 1, 4), (7, 4, 100, 8, 1, 5), (8, 0, 100, 1600, 0, 2), (8, 1, 100, 6, 0, 3), (8, 7, 100, 256, 0, 4), (9, 0, 8, 0, 0, 1), (9, 1, 4, 0, 0, 8), (10, 0, 100, 31, 0, 13), (10, 1, 7, 0, 0, 14), (10, 2, 1, 0, 0, 10), (11, 0, 8, 0, 0, 1), (11, 1, 3, 0, 0, 5), (11, 2, 4, 0, 0, 8), (11, 3, 9, 0, 0, 9), (11, 4, 1, 0, 0, 10), (11, 5, 10, 0, 0, 12), (11, 6, 0, 0, 0, 20), (11, 7, 2, 0, 0, 24), (11, 8, 7, 0, 0, 28), (11, 9, 7, 0, 0, 34), (11, 10, 103, 20, 0, 40), (11, 11, 100, 6, 0, 41), (11, 12, 100, 64, 0, 42), (12, 0, 100, 1600, 0, 210), (12, 9, 100, 6, 0, 211), (12, 10, 101, 5, 0, 212), (12, 11, 101, 4, 0, 213), (12, 12, 101, 5, 0, 214), (12, 13, 101, 4, 0, 215), (12, 14, 101, 4, 0, 216), (12, 15, 101, 5, 0, 217), (12, 16, 101, 2, 0, 218), (12, 17, 101, 6, 0, 219), (12, 18, 101, 4, 0, 220), (12, 19, 101, 2, 0, 221), (12, 20, 101, 2, 0, 222), (12, 21, 101, 4, 0, 223), (12, 22, 101, 6, 0, 224), (12, 23, 101, 3, 0, 225), (12, 24, 101, 4, 0, 226), (12, 25, 101, 4, 0, 227), (12, 26, 101, 5, 0, 228), (12, 27, 101, 5, 0, 229), (12, 28, 101, 6, 0, 230), (12, 29, 101, 3, 0, 231), (12, 30, 101, 6, 0, 232), (12, 31, 101, 5, 0, 233), (12, 32, 101, 4, 0, 234), (12, 33, 101, 3, 0, 235), (12, 34, 101, 2, 0, 236), (12, 35, 101, 3, 0, 237), (12, 36, 101, 3, 0, 238), (12, 37, 101, 3, 0, 239), (12, 38, 101, 3, 0, 240), (12, 39, 101, 3, 0, 241), (12, 41, 100, 8, 0, 242), (12, 42, 102, 48, 0, 243), (12, 43, 100, 98, 0, 244), (12, 44, 100, 48, 0, 245), (12, 45, 100, 36, 0, 246), (12, 46, 100, 6, 0, 247), (12, 47, 100, 6, 0, 248), (12, 48, 100, 4, 0, 249), (12, 49, 100, 4, 0, 250), (12, 50, 100, 3200, 0, 251), (12, 54, 100, 49, 0, 252), (12, 55, 100, 49, 0, 253), (12, 56, 100, 37, 0, 254), (12, 57, 100, 37, 0, 255), (12, 63, 100, 31, 0, 256), (12, 64, 100, 6, 0, 257), (12, 65, 100, 6, 0, 258), (12, 66, 100, 48, 0, 259), (12, 68, 100, 32, 0, 260), (12, 69, 100, 1488, 0, 261), (12, 73, 100, 740, 0, 262), (12, 77, 101, 5, 0, 263), (12, 78, 101, 4, 0, 264), (12, 79, 101, 5, 0, 265), (12, 80, 101, 5, 0, 266), (12, 81, 101, 4, 0, 267), (12, 82, 101, 5, 0, 268), (12, 83, 101, 3, 0, 269), (12, 84, 101, 3, 0, 270), (12, 85, 101, 2, 0, 271), (12, 86, 101, 3, 0, 272), (12, 87, 101, 3, 0, 273), (12, 88, 101, 3, 0, 274), (12, 89, 101, 5, 0, 275), (12, 90, 101, 5, 0, 276), (12, 91, 101, 6, 0, 277), (12, 92, 101, 4, 0, 278), (12, 93, 101, 3, 0, 279), (12, 94, 101, 6, 0, 280), (12, 95, 101, 4, 0, 281), (12, 96, 101, 4, 0, 282), (12, 97, 101, 5, 0, 283), (12, 98, 101, 3, 0, 284), (12, 99, 100, 1700, 0, 285), (12, 101, 100, 1700, 0, 286), (12, 105, 102, 1700, 0, 287), (12, 109, 100, 44, 0, 288)]
def zFa (mode off a : Nat) : Nat := match mode with
  | 0 => off
  | _ => a + off
def zG (G : aHp) : Prop := aN G = 289 ∧ aK G 0 = 11 ∧ zGP G ∧ (∀ a, zGF G 6 2 a (100, zNl a, a + 1)) ∧ ∀ e, e ∈ zFt → ∀ a, zGF G e.1 e.2.1 a (e.2.2.1, e.2.2.2.1, zFa e.2.2.2.2.1 e.2.2.2.2.2 a)
theorem zGN {G : aHp} (hG : zG G) : aN G ≤ 950000 := by rw [hG.1]; omega
theorem zf_6_2 {G : aHp} (hG : zG G) {a : Nat} : zGF G 6 2 a (100, zNl a, a + 1) := hG.2.2.2.1 a
theorem zf_0_0 {G : aHp} (hG : zG G) {a : Nat} : zGF G 0 0 a (100, 6, 21) := hG.2.2.2.2 (0, 0, 100, 6, 0, 21) (List.mem_of_getElem? (i := 0) rfl) a
theorem zf_0_2 {G : aHp} (hG : zG G) {a : Nat} : zGF G 0 2 a (100, 6, 22) := hG.2.2.2.2 (0, 2, 100, 6, 0, 22) (List.mem_of_getElem? (i := 1) rfl) a
theorem zf_0_3 {G : aHp} (hG : zG G) {a : Nat} : zGF G 0 3 a (100, 48, 23) := hG.2.2.2.2 (0, 3, 100, 48, 0, 23) (List.mem_of_getElem? (i := 2) rfl) a
theorem zf_1_0 {G : aHp} (hG : zG G) {a : Nat} : zGF G 1 0 a (100, 10, 11) := hG.2.2.2.2 (1, 0, 100, 10, 0, 11) (List.mem_of_getElem? (i := 3) rfl) a
theorem zf_2_4 {G : aHp} (hG : zG G) {a : Nat} : zGF G 2 4 a (100, 16, 25) := hG.2.2.2.2 (2, 4, 100, 16, 0, 25) (List.mem_of_getElem? (i := 4) rfl) a
theorem zf_2_5 {G : aHp} (hG : zG G) {a : Nat} : zGF G 2 5 a (100, 16, 26) := hG.2.2.2.2 (2, 5, 100, 16, 0, 26) (List.mem_of_getElem? (i := 5) rfl) a
theorem zf_2_6 {G : aHp} (hG : zG G) {a : Nat} : zGF G 2 6 a (100, 217, 27) := hG.2.2.2.2 (2, 6, 100, 217, 0, 27) (List.mem_of_getElem? (i := 6) rfl) a
theorem zf_3_0 {G : aHp} (hG : zG G) {a : Nat} : zGF G 3 0 a (100, 1600, a + 1) := hG.2.2.2.2 (3, 0, 100, 1600, 1, 1) (List.mem_of_getElem? (i := 7) rfl) a
theorem zf_3_1 {G : aHp} (hG : zG G) {a : Nat} : zGF G 3 1 a (100, 64, a + 2) := hG.2.2.2.2 (3, 1, 100, 64, 1, 2) (List.mem_of_getElem? (i := 8) rfl) a
theorem zf_4_0 {G : aHp} (hG : zG G) {a : Nat} : zGF G 4 0 a (8, 0, 1) := hG.2.2.2.2 (4, 0, 8, 0, 0, 1) (List.mem_of_getElem? (i := 9) rfl) a
theorem zf_5_0 {G : aHp} (hG : zG G) {a : Nat} : zGF G 5 0 a (6, 0, a + 1) := hG.2.2.2.2 (5, 0, 6, 0, 1, 1) (List.mem_of_getElem? (i := 10) rfl) a
theorem zf_5_1 {G : aHp} (hG : zG G) {a : Nat} : zGF G 5 1 a (6, 0, a + 3) := hG.2.2.2.2 (5, 1, 6, 0, 1, 3) (List.mem_of_getElem? (i := 11) rfl) a
theorem zf_5_2 {G : aHp} (hG : zG G) {a : Nat} : zGF G 5 2 a (6, 0, a + 5) := hG.2.2.2.2 (5, 2, 6, 0, 1, 5) (List.mem_of_getElem? (i := 12) rfl) a
theorem zf_5_3 {G : aHp} (hG : zG G) {a : Nat} : zGF G 5 3 a (100, 49, a + 7) := hG.2.2.2.2 (5, 3, 100, 49, 1, 7) (List.mem_of_getElem? (i := 13) rfl) a
theorem zf_5_4 {G : aHp} (hG : zG G) {a : Nat} : zGF G 5 4 a (100, 49, a + 8) := hG.2.2.2.2 (5, 4, 100, 49, 1, 8) (List.mem_of_getElem? (i := 14) rfl) a
theorem zf_5_5 {G : aHp} (hG : zG G) {a : Nat} : zGF G 5 5 a (100, 49, a + 9) := hG.2.2.2.2 (5, 5, 100, 49, 1, 9) (List.mem_of_getElem? (i := 15) rfl) a
theorem zf_5_6 {G : aHp} (hG : zG G) {a : Nat} : zGF G 5 6 a (100, 8, a + 10) := hG.2.2.2.2 (5, 6, 100, 8, 1, 10) (List.mem_of_getElem? (i := 16) rfl) a
theorem zf_5_7 {G : aHp} (hG : zG G) {a : Nat} : zGF G 5 7 a (100, 8, a + 11) := hG.2.2.2.2 (5, 7, 100, 8, 1, 11) (List.mem_of_getElem? (i := 17) rfl) a
theorem zf_5_8 {G : aHp} (hG : zG G) {a : Nat} : zGF G 5 8 a (100, 8, a + 12) := hG.2.2.2.2 (5, 8, 100, 8, 1, 12) (List.mem_of_getElem? (i := 18) rfl) a
theorem zf_5_9 {G : aHp} (hG : zG G) {a : Nat} : zGF G 5 9 a (100, 6, a + 13) := hG.2.2.2.2 (5, 9, 100, 6, 1, 13) (List.mem_of_getElem? (i := 19) rfl) a
theorem zf_5_10 {G : aHp} (hG : zG G) {a : Nat} : zGF G 5 10 a (100, 6, a + 14) := hG.2.2.2.2 (5, 10, 100, 6, 1, 14) (List.mem_of_getElem? (i := 20) rfl) a
theorem zf_5_11 {G : aHp} (hG : zG G) {a : Nat} : zGF G 5 11 a (100, 6, a + 15) := hG.2.2.2.2 (5, 11, 100, 6, 1, 15) (List.mem_of_getElem? (i := 21) rfl) a
theorem zf_5_12 {G : aHp} (hG : zG G) {a : Nat} : zGF G 5 12 a (100, 6, a + 16) := hG.2.2.2.2 (5, 12, 100, 6, 1, 16) (List.mem_of_getElem? (i := 22) rfl) a
theorem zf_5_13 {G : aHp} (hG : zG G) {a : Nat} : zGF G 5 13 a (3, 0, a + 17) := hG.2.2.2.2 (5, 13, 3, 0, 1, 17) (List.mem_of_getElem? (i := 23) rfl) a
theorem zf_5_14 {G : aHp} (hG : zG G) {a : Nat} : zGF G 5 14 a (3, 0, a + 20) := hG.2.2.2.2 (5, 14, 3, 0, 1, 20) (List.mem_of_getElem? (i := 24) rfl) a
theorem zf_7_0 {G : aHp} (hG : zG G) {a : Nat} : zGF G 7 0 a (100, 8, a + 1) := hG.2.2.2.2 (7, 0, 100, 8, 1, 1) (List.mem_of_getElem? (i := 25) rfl) a
theorem zf_7_1 {G : aHp} (hG : zG G) {a : Nat} : zGF G 7 1 a (100, 6, a + 2) := hG.2.2.2.2 (7, 1, 100, 6, 1, 2) (List.mem_of_getElem? (i := 26) rfl) a
theorem zf_7_2 {G : aHp} (hG : zG G) {a : Nat} : zGF G 7 2 a (100, 6, a + 3) := hG.2.2.2.2 (7, 2, 100, 6, 1, 3) (List.mem_of_getElem? (i := 27) rfl) a
theorem zf_7_3 {G : aHp} (hG : zG G) {a : Nat} : zGF G 7 3 a (100, 6, a + 4) := hG.2.2.2.2 (7, 3, 100, 6, 1, 4) (List.mem_of_getElem? (i := 28) rfl) a
theorem zf_7_4 {G : aHp} (hG : zG G) {a : Nat} : zGF G 7 4 a (100, 8, a + 5) := hG.2.2.2.2 (7, 4, 100, 8, 1, 5) (List.mem_of_getElem? (i := 29) rfl) a
theorem zf_8_0 {G : aHp} (hG : zG G) {a : Nat} : zGF G 8 0 a (100, 1600, 2) := hG.2.2.2.2 (8, 0, 100, 1600, 0, 2) (List.mem_of_getElem? (i := 30) rfl) a
theorem zf_8_1 {G : aHp} (hG : zG G) {a : Nat} : zGF G 8 1 a (100, 6, 3) := hG.2.2.2.2 (8, 1, 100, 6, 0, 3) (List.mem_of_getElem? (i := 31) rfl) a
theorem zf_8_7 {G : aHp} (hG : zG G) {a : Nat} : zGF G 8 7 a (100, 256, 4) := hG.2.2.2.2 (8, 7, 100, 256, 0, 4) (List.mem_of_getElem? (i := 32) rfl) a
theorem zf_9_0 {G : aHp} (hG : zG G) {a : Nat} : zGF G 9 0 a (8, 0, 1) := hG.2.2.2.2 (9, 0, 8, 0, 0, 1) (List.mem_of_getElem? (i := 33) rfl) a
theorem zf_9_1 {G : aHp} (hG : zG G) {a : Nat} : zGF G 9 1 a (4, 0, 8) := hG.2.2.2.2 (9, 1, 4, 0, 0, 8) (List.mem_of_getElem? (i := 34) rfl) a
theorem zf_10_0 {G : aHp} (hG : zG G) {a : Nat} : zGF G 10 0 a (100, 31, 13) := hG.2.2.2.2 (10, 0, 100, 31, 0, 13) (List.mem_of_getElem? (i := 35) rfl) a
theorem zf_10_1 {G : aHp} (hG : zG G) {a : Nat} : zGF G 10 1 a (7, 0, 14) := hG.2.2.2.2 (10, 1, 7, 0, 0, 14) (List.mem_of_getElem? (i := 36) rfl) a
theorem zf_10_2 {G : aHp} (hG : zG G) {a : Nat} : zGF G 10 2 a (1, 0, 10) := hG.2.2.2.2 (10, 2, 1, 0, 0, 10) (List.mem_of_getElem? (i := 37) rfl) a
theorem zf_11_0 {G : aHp} (hG : zG G) {a : Nat} : zGF G 11 0 a (8, 0, 1) := hG.2.2.2.2 (11, 0, 8, 0, 0, 1) (List.mem_of_getElem? (i := 38) rfl) a
theorem zf_11_1 {G : aHp} (hG : zG G) {a : Nat} : zGF G 11 1 a (3, 0, 5) := hG.2.2.2.2 (11, 1, 3, 0, 0, 5) (List.mem_of_getElem? (i := 39) rfl) a
theorem zf_11_2 {G : aHp} (hG : zG G) {a : Nat} : zGF G 11 2 a (4, 0, 8) := hG.2.2.2.2 (11, 2, 4, 0, 0, 8) (List.mem_of_getElem? (i := 40) rfl) a
theorem zf_11_3 {G : aHp} (hG : zG G) {a : Nat} : zGF G 11 3 a (9, 0, 9) := hG.2.2.2.2 (11, 3, 9, 0, 0, 9) (List.mem_of_getElem? (i := 41) rfl) a
theorem zf_11_4 {G : aHp} (hG : zG G) {a : Nat} : zGF G 11 4 a (1, 0, 10) := hG.2.2.2.2 (11, 4, 1, 0, 0, 10) (List.mem_of_getElem? (i := 42) rfl) a
theorem zf_11_5 {G : aHp} (hG : zG G) {a : Nat} : zGF G 11 5 a (10, 0, 12) := hG.2.2.2.2 (11, 5, 10, 0, 0, 12) (List.mem_of_getElem? (i := 43) rfl) a
theorem zf_11_6 {G : aHp} (hG : zG G) {a : Nat} : zGF G 11 6 a (0, 0, 20) := hG.2.2.2.2 (11, 6, 0, 0, 0, 20) (List.mem_of_getElem? (i := 44) rfl) a
theorem zf_11_7 {G : aHp} (hG : zG G) {a : Nat} : zGF G 11 7 a (2, 0, 24) := hG.2.2.2.2 (11, 7, 2, 0, 0, 24) (List.mem_of_getElem? (i := 45) rfl) a
theorem zf_11_8 {G : aHp} (hG : zG G) {a : Nat} : zGF G 11 8 a (7, 0, 28) := hG.2.2.2.2 (11, 8, 7, 0, 0, 28) (List.mem_of_getElem? (i := 46) rfl) a
theorem zf_11_9 {G : aHp} (hG : zG G) {a : Nat} : zGF G 11 9 a (7, 0, 34) := hG.2.2.2.2 (11, 9, 7, 0, 0, 34) (List.mem_of_getElem? (i := 47) rfl) a
theorem zf_11_10 {G : aHp} (hG : zG G) {a : Nat} : zGF G 11 10 a (103, 20, 40) := hG.2.2.2.2 (11, 10, 103, 20, 0, 40) (List.mem_of_getElem? (i := 48) rfl) a
theorem zf_11_11 {G : aHp} (hG : zG G) {a : Nat} : zGF G 11 11 a (100, 6, 41) := hG.2.2.2.2 (11, 11, 100, 6, 0, 41) (List.mem_of_getElem? (i := 49) rfl) a
theorem zf_11_12 {G : aHp} (hG : zG G) {a : Nat} : zGF G 11 12 a (100, 64, 42) := hG.2.2.2.2 (11, 12, 100, 64, 0, 42) (List.mem_of_getElem? (i := 50) rfl) a
theorem zf_12_0 {G : aHp} (hG : zG G) {a : Nat} : zGF G 12 0 a (100, 1600, 210) := hG.2.2.2.2 (12, 0, 100, 1600, 0, 210) (List.mem_of_getElem? (i := 51) rfl) a
theorem zf_12_9 {G : aHp} (hG : zG G) {a : Nat} : zGF G 12 9 a (100, 6, 211) := hG.2.2.2.2 (12, 9, 100, 6, 0, 211) (List.mem_of_getElem? (i := 52) rfl) a
theorem zf_12_10 {G : aHp} (hG : zG G) {a : Nat} : zGF G 12 10 a (101, 5, 212) := hG.2.2.2.2 (12, 10, 101, 5, 0, 212) (List.mem_of_getElem? (i := 53) rfl) a
theorem zf_12_11 {G : aHp} (hG : zG G) {a : Nat} : zGF G 12 11 a (101, 4, 213) := hG.2.2.2.2 (12, 11, 101, 4, 0, 213) (List.mem_of_getElem? (i := 54) rfl) a
theorem zf_12_12 {G : aHp} (hG : zG G) {a : Nat} : zGF G 12 12 a (101, 5, 214) := hG.2.2.2.2 (12, 12, 101, 5, 0, 214) (List.mem_of_getElem? (i := 55) rfl) a
theorem zf_12_13 {G : aHp} (hG : zG G) {a : Nat} : zGF G 12 13 a (101, 4, 215) := hG.2.2.2.2 (12, 13, 101, 4, 0, 215) (List.mem_of_getElem? (i := 56) rfl) a
theorem zf_12_14 {G : aHp} (hG : zG G) {a : Nat} : zGF G 12 14 a (101, 4, 216) := hG.2.2.2.2 (12, 14, 101, 4, 0, 216) (List.mem_of_getElem? (i := 57) rfl) a
theorem zf_12_15 {G : aHp} (hG : zG G) {a : Nat} : zGF G 12 15 a (101, 5, 217) := hG.2.2.2.2 (12, 15, 101, 5, 0, 217) (List.mem_of_getElem? (i := 58) rfl) a
theorem zf_12_16 {G : aHp} (hG : zG G) {a : Nat} : zGF G 12 16 a (101, 2, 218) := hG.2.2.2.2 (12, 16, 101, 2, 0, 218) (List.mem_of_getElem? (i := 59) rfl) a
theorem zf_12_17 {G : aHp} (hG : zG G) {a : Nat} : zGF G 12 17 a (101, 6, 219) := hG.2.2.2.2 (12, 17, 101, 6, 0, 219) (List.mem_of_getElem? (i := 60) rfl) a
theorem zf_12_18 {G : aHp} (hG : zG G) {a : Nat} : zGF G 12 18 a (101, 4, 220) := hG.2.2.2.2 (12, 18, 101, 4, 0, 220) (List.mem_of_getElem? (i := 61) rfl) a
theorem zf_12_19 {G : aHp} (hG : zG G) {a : Nat} : zGF G 12 19 a (101, 2, 221) := hG.2.2.2.2 (12, 19, 101, 2, 0, 221) (List.mem_of_getElem? (i := 62) rfl) a
theorem zf_12_20 {G : aHp} (hG : zG G) {a : Nat} : zGF G 12 20 a (101, 2, 222) := hG.2.2.2.2 (12, 20, 101, 2, 0, 222) (List.mem_of_getElem? (i := 63) rfl) a
theorem zf_12_21 {G : aHp} (hG : zG G) {a : Nat} : zGF G 12 21 a (101, 4, 223) := hG.2.2.2.2 (12, 21, 101, 4, 0, 223) (List.mem_of_getElem? (i := 64) rfl) a
theorem zf_12_22 {G : aHp} (hG : zG G) {a : Nat} : zGF G 12 22 a (101, 6, 224) := hG.2.2.2.2 (12, 22, 101, 6, 0, 224) (List.mem_of_getElem? (i := 65) rfl) a
theorem zf_12_23 {G : aHp} (hG : zG G) {a : Nat} : zGF G 12 23 a (101, 3, 225) := hG.2.2.2.2 (12, 23, 101, 3, 0, 225) (List.mem_of_getElem? (i := 66) rfl) a
theorem zf_12_24 {G : aHp} (hG : zG G) {a : Nat} : zGF G 12 24 a (101, 4, 226) := hG.2.2.2.2 (12, 24, 101, 4, 0, 226) (List.mem_of_getElem? (i := 67) rfl) a
theorem zf_12_25 {G : aHp} (hG : zG G) {a : Nat} : zGF G 12 25 a (101, 4, 227) := hG.2.2.2.2 (12, 25, 101, 4, 0, 227) (List.mem_of_getElem? (i := 68) rfl) a
theorem zf_12_26 {G : aHp} (hG : zG G) {a : Nat} : zGF G 12 26 a (101, 5, 228) := hG.2.2.2.2 (12, 26, 101, 5, 0, 228) (List.mem_of_getElem? (i := 69) rfl) a
theorem zf_12_27 {G : aHp} (hG : zG G) {a : Nat} : zGF G 12 27 a (101, 5, 229) := hG.2.2.2.2 (12, 27, 101, 5, 0, 229) (List.mem_of_getElem? (i := 70) rfl) a
theorem zf_12_28 {G : aHp} (hG : zG G) {a : Nat} : zGF G 12 28 a (101, 6, 230) := hG.2.2.2.2 (12, 28, 101, 6, 0, 230) (List.mem_of_getElem? (i := 71) rfl) a
theorem zf_12_29 {G : aHp} (hG : zG G) {a : Nat} : zGF G 12 29 a (101, 3, 231) := hG.2.2.2.2 (12, 29, 101, 3, 0, 231) (List.mem_of_getElem? (i := 72) rfl) a
theorem zf_12_30 {G : aHp} (hG : zG G) {a : Nat} : zGF G 12 30 a (101, 6, 232) := hG.2.2.2.2 (12, 30, 101, 6, 0, 232) (List.mem_of_getElem? (i := 73) rfl) a
theorem zf_12_31 {G : aHp} (hG : zG G) {a : Nat} : zGF G 12 31 a (101, 5, 233) := hG.2.2.2.2 (12, 31, 101, 5, 0, 233) (List.mem_of_getElem? (i := 74) rfl) a
theorem zf_12_32 {G : aHp} (hG : zG G) {a : Nat} : zGF G 12 32 a (101, 4, 234) := hG.2.2.2.2 (12, 32, 101, 4, 0, 234) (List.mem_of_getElem? (i := 75) rfl) a
theorem zf_12_33 {G : aHp} (hG : zG G) {a : Nat} : zGF G 12 33 a (101, 3, 235) := hG.2.2.2.2 (12, 33, 101, 3, 0, 235) (List.mem_of_getElem? (i := 76) rfl) a
theorem zf_12_34 {G : aHp} (hG : zG G) {a : Nat} : zGF G 12 34 a (101, 2, 236) := hG.2.2.2.2 (12, 34, 101, 2, 0, 236) (List.mem_of_getElem? (i := 77) rfl) a
theorem zf_12_35 {G : aHp} (hG : zG G) {a : Nat} : zGF G 12 35 a (101, 3, 237) := hG.2.2.2.2 (12, 35, 101, 3, 0, 237) (List.mem_of_getElem? (i := 78) rfl) a
theorem zf_12_36 {G : aHp} (hG : zG G) {a : Nat} : zGF G 12 36 a (101, 3, 238) := hG.2.2.2.2 (12, 36, 101, 3, 0, 238) (List.mem_of_getElem? (i := 79) rfl) a
theorem zf_12_37 {G : aHp} (hG : zG G) {a : Nat} : zGF G 12 37 a (101, 3, 239) := hG.2.2.2.2 (12, 37, 101, 3, 0, 239) (List.mem_of_getElem? (i := 80) rfl) a
theorem zf_12_38 {G : aHp} (hG : zG G) {a : Nat} : zGF G 12 38 a (101, 3, 240) := hG.2.2.2.2 (12, 38, 101, 3, 0, 240) (List.mem_of_getElem? (i := 81) rfl) a
theorem zf_12_39 {G : aHp} (hG : zG G) {a : Nat} : zGF G 12 39 a (101, 3, 241) := hG.2.2.2.2 (12, 39, 101, 3, 0, 241) (List.mem_of_getElem? (i := 82) rfl) a
theorem zf_12_41 {G : aHp} (hG : zG G) {a : Nat} : zGF G 12 41 a (100, 8, 242) := hG.2.2.2.2 (12, 41, 100, 8, 0, 242) (List.mem_of_getElem? (i := 83) rfl) a
theorem zf_12_42 {G : aHp} (hG : zG G) {a : Nat} : zGF G 12 42 a (102, 48, 243) := hG.2.2.2.2 (12, 42, 102, 48, 0, 243) (List.mem_of_getElem? (i := 84) rfl) a
theorem zf_12_43 {G : aHp} (hG : zG G) {a : Nat} : zGF G 12 43 a (100, 98, 244) := hG.2.2.2.2 (12, 43, 100, 98, 0, 244) (List.mem_of_getElem? (i := 85) rfl) a
theorem zf_12_44 {G : aHp} (hG : zG G) {a : Nat} : zGF G 12 44 a (100, 48, 245) := hG.2.2.2.2 (12, 44, 100, 48, 0, 245) (List.mem_of_getElem? (i := 86) rfl) a
theorem zf_12_45 {G : aHp} (hG : zG G) {a : Nat} : zGF G 12 45 a (100, 36, 246) := hG.2.2.2.2 (12, 45, 100, 36, 0, 246) (List.mem_of_getElem? (i := 87) rfl) a
theorem zf_12_46 {G : aHp} (hG : zG G) {a : Nat} : zGF G 12 46 a (100, 6, 247) := hG.2.2.2.2 (12, 46, 100, 6, 0, 247) (List.mem_of_getElem? (i := 88) rfl) a
theorem zf_12_47 {G : aHp} (hG : zG G) {a : Nat} : zGF G 12 47 a (100, 6, 248) := hG.2.2.2.2 (12, 47, 100, 6, 0, 248) (List.mem_of_getElem? (i := 89) rfl) a
theorem zf_12_48 {G : aHp} (hG : zG G) {a : Nat} : zGF G 12 48 a (100, 4, 249) := hG.2.2.2.2 (12, 48, 100, 4, 0, 249) (List.mem_of_getElem? (i := 90) rfl) a
theorem zf_12_49 {G : aHp} (hG : zG G) {a : Nat} : zGF G 12 49 a (100, 4, 250) := hG.2.2.2.2 (12, 49, 100, 4, 0, 250) (List.mem_of_getElem? (i := 91) rfl) a
theorem zf_12_50 {G : aHp} (hG : zG G) {a : Nat} : zGF G 12 50 a (100, 3200, 251) := hG.2.2.2.2 (12, 50, 100, 3200, 0, 251) (List.mem_of_getElem? (i := 92) rfl) a
theorem zf_12_54 {G : aHp} (hG : zG G) {a : Nat} : zGF G 12 54 a (100, 49, 252) := hG.2.2.2.2 (12, 54, 100, 49, 0, 252) (List.mem_of_getElem? (i := 93) rfl) a
theorem zf_12_55 {G : aHp} (hG : zG G) {a : Nat} : zGF G 12 55 a (100, 49, 253) := hG.2.2.2.2 (12, 55, 100, 49, 0, 253) (List.mem_of_getElem? (i := 94) rfl) a
theorem zf_12_56 {G : aHp} (hG : zG G) {a : Nat} : zGF G 12 56 a (100, 37, 254) := hG.2.2.2.2 (12, 56, 100, 37, 0, 254) (List.mem_of_getElem? (i := 95) rfl) a
theorem zf_12_57 {G : aHp} (hG : zG G) {a : Nat} : zGF G 12 57 a (100, 37, 255) := hG.2.2.2.2 (12, 57, 100, 37, 0, 255) (List.mem_of_getElem? (i := 96) rfl) a
theorem zf_12_63 {G : aHp} (hG : zG G) {a : Nat} : zGF G 12 63 a (100, 31, 256) := hG.2.2.2.2 (12, 63, 100, 31, 0, 256) (List.mem_of_getElem? (i := 97) rfl) a
theorem zf_12_64 {G : aHp} (hG : zG G) {a : Nat} : zGF G 12 64 a (100, 6, 257) := hG.2.2.2.2 (12, 64, 100, 6, 0, 257) (List.mem_of_getElem? (i := 98) rfl) a
theorem zf_12_65 {G : aHp} (hG : zG G) {a : Nat} : zGF G 12 65 a (100, 6, 258) := hG.2.2.2.2 (12, 65, 100, 6, 0, 258) (List.mem_of_getElem? (i := 99) rfl) a
theorem zf_12_66 {G : aHp} (hG : zG G) {a : Nat} : zGF G 12 66 a (100, 48, 259) := hG.2.2.2.2 (12, 66, 100, 48, 0, 259) (List.mem_of_getElem? (i := 100) rfl) a
theorem zf_12_68 {G : aHp} (hG : zG G) {a : Nat} : zGF G 12 68 a (100, 32, 260) := hG.2.2.2.2 (12, 68, 100, 32, 0, 260) (List.mem_of_getElem? (i := 101) rfl) a
theorem zf_12_69 {G : aHp} (hG : zG G) {a : Nat} : zGF G 12 69 a (100, 1488, 261) := hG.2.2.2.2 (12, 69, 100, 1488, 0, 261) (List.mem_of_getElem? (i := 102) rfl) a
theorem zf_12_73 {G : aHp} (hG : zG G) {a : Nat} : zGF G 12 73 a (100, 740, 262) := hG.2.2.2.2 (12, 73, 100, 740, 0, 262) (List.mem_of_getElem? (i := 103) rfl) a
theorem zf_12_77 {G : aHp} (hG : zG G) {a : Nat} : zGF G 12 77 a (101, 5, 263) := hG.2.2.2.2 (12, 77, 101, 5, 0, 263) (List.mem_of_getElem? (i := 104) rfl) a
theorem zf_12_78 {G : aHp} (hG : zG G) {a : Nat} : zGF G 12 78 a (101, 4, 264) := hG.2.2.2.2 (12, 78, 101, 4, 0, 264) (List.mem_of_getElem? (i := 105) rfl) a
theorem zf_12_79 {G : aHp} (hG : zG G) {a : Nat} : zGF G 12 79 a (101, 5, 265) := hG.2.2.2.2 (12, 79, 101, 5, 0, 265) (List.mem_of_getElem? (i := 106) rfl) a
theorem zf_12_80 {G : aHp} (hG : zG G) {a : Nat} : zGF G 12 80 a (101, 5, 266) := hG.2.2.2.2 (12, 80, 101, 5, 0, 266) (List.mem_of_getElem? (i := 107) rfl) a
theorem zf_12_81 {G : aHp} (hG : zG G) {a : Nat} : zGF G 12 81 a (101, 4, 267) := hG.2.2.2.2 (12, 81, 101, 4, 0, 267) (List.mem_of_getElem? (i := 108) rfl) a
theorem zf_12_82 {G : aHp} (hG : zG G) {a : Nat} : zGF G 12 82 a (101, 5, 268) := hG.2.2.2.2 (12, 82, 101, 5, 0, 268) (List.mem_of_getElem? (i := 109) rfl) a
theorem zf_12_83 {G : aHp} (hG : zG G) {a : Nat} : zGF G 12 83 a (101, 3, 269) := hG.2.2.2.2 (12, 83, 101, 3, 0, 269) (List.mem_of_getElem? (i := 110) rfl) a
theorem zf_12_84 {G : aHp} (hG : zG G) {a : Nat} : zGF G 12 84 a (101, 3, 270) := hG.2.2.2.2 (12, 84, 101, 3, 0, 270) (List.mem_of_getElem? (i := 111) rfl) a
theorem zf_12_85 {G : aHp} (hG : zG G) {a : Nat} : zGF G 12 85 a (101, 2, 271) := hG.2.2.2.2 (12, 85, 101, 2, 0, 271) (List.mem_of_getElem? (i := 112) rfl) a
theorem zf_12_86 {G : aHp} (hG : zG G) {a : Nat} : zGF G 12 86 a (101, 3, 272) := hG.2.2.2.2 (12, 86, 101, 3, 0, 272) (List.mem_of_getElem? (i := 113) rfl) a
theorem zf_12_87 {G : aHp} (hG : zG G) {a : Nat} : zGF G 12 87 a (101, 3, 273) := hG.2.2.2.2 (12, 87, 101, 3, 0, 273) (List.mem_of_getElem? (i := 114) rfl) a
theorem zf_12_88 {G : aHp} (hG : zG G) {a : Nat} : zGF G 12 88 a (101, 3, 274) := hG.2.2.2.2 (12, 88, 101, 3, 0, 274) (List.mem_of_getElem? (i := 115) rfl) a
theorem zf_12_89 {G : aHp} (hG : zG G) {a : Nat} : zGF G 12 89 a (101, 5, 275) := hG.2.2.2.2 (12, 89, 101, 5, 0, 275) (List.mem_of_getElem? (i := 116) rfl) a
theorem zf_12_90 {G : aHp} (hG : zG G) {a : Nat} : zGF G 12 90 a (101, 5, 276) := hG.2.2.2.2 (12, 90, 101, 5, 0, 276) (List.mem_of_getElem? (i := 117) rfl) a
theorem zf_12_91 {G : aHp} (hG : zG G) {a : Nat} : zGF G 12 91 a (101, 6, 277) := hG.2.2.2.2 (12, 91, 101, 6, 0, 277) (List.mem_of_getElem? (i := 118) rfl) a
theorem zf_12_92 {G : aHp} (hG : zG G) {a : Nat} : zGF G 12 92 a (101, 4, 278) := hG.2.2.2.2 (12, 92, 101, 4, 0, 278) (List.mem_of_getElem? (i := 119) rfl) a
theorem zf_12_93 {G : aHp} (hG : zG G) {a : Nat} : zGF G 12 93 a (101, 3, 279) := hG.2.2.2.2 (12, 93, 101, 3, 0, 279) (List.mem_of_getElem? (i := 120) rfl) a
theorem zf_12_94 {G : aHp} (hG : zG G) {a : Nat} : zGF G 12 94 a (101, 6, 280) := hG.2.2.2.2 (12, 94, 101, 6, 0, 280) (List.mem_of_getElem? (i := 121) rfl) a
theorem zf_12_95 {G : aHp} (hG : zG G) {a : Nat} : zGF G 12 95 a (101, 4, 281) := hG.2.2.2.2 (12, 95, 101, 4, 0, 281) (List.mem_of_getElem? (i := 122) rfl) a
theorem zf_12_96 {G : aHp} (hG : zG G) {a : Nat} : zGF G 12 96 a (101, 4, 282) := hG.2.2.2.2 (12, 96, 101, 4, 0, 282) (List.mem_of_getElem? (i := 123) rfl) a
theorem zf_12_97 {G : aHp} (hG : zG G) {a : Nat} : zGF G 12 97 a (101, 5, 283) := hG.2.2.2.2 (12, 97, 101, 5, 0, 283) (List.mem_of_getElem? (i := 124) rfl) a
theorem zf_12_98 {G : aHp} (hG : zG G) {a : Nat} : zGF G 12 98 a (101, 3, 284) := hG.2.2.2.2 (12, 98, 101, 3, 0, 284) (List.mem_of_getElem? (i := 125) rfl) a
theorem zf_12_99 {G : aHp} (hG : zG G) {a : Nat} : zGF G 12 99 a (100, 1700, 285) := hG.2.2.2.2 (12, 99, 100, 1700, 0, 285) (List.mem_of_getElem? (i := 126) rfl) a
theorem zf_12_101 {G : aHp} (hG : zG G) {a : Nat} : zGF G 12 101 a (100, 1700, 286) := hG.2.2.2.2 (12, 101, 100, 1700, 0, 286) (List.mem_of_getElem? (i := 127) rfl) a
theorem zf_12_105 {G : aHp} (hG : zG G) {a : Nat} : zGF G 12 105 a (102, 1700, 287) := hG.2.2.2.2 (12, 105, 102, 1700, 0, 287) (List.mem_of_getElem? (i := 128) rfl) a
theorem zf_12_109 {G : aHp} (hG : zG G) {a : Nat} : zGF G 12 109 a (100, 44, 288) := hG.2.2.2.2 (12, 109, 100, 44, 0, 288) (List.mem_of_getElem? (i := 129) rfl) a
set_option maxRecDepth 20000 in
theorem hM1 : aMs 1 = some aM1 := rfl
set_option maxRecDepth 20000 in
theorem hM2 : aMs 2 = some aM2 := rfl
set_option maxRecDepth 20000 in
theorem hM3 : aMs 3 = some aM3 := rfl
set_option maxRecDepth 20000 in
theorem hM5 : aMs 5 = some aM5 := rfl
set_option maxRecDepth 20000 in
theorem hM6 : aMs 6 = some aM6 := rfl
set_option maxRecDepth 20000 in
theorem hM7 : aMs 7 = some aM7 := rfl
set_option maxRecDepth 20000 in
theorem hM8 : aMs 8 = some aM8 := rfl
set_option maxRecDepth 20000 in
theorem hM9 : aMs 9 = some aM9 := rfl
set_option maxRecDepth 20000 in
theorem hM10 : aMs 10 = some aM10 := rfl
set_option maxRecDepth 20000 in
theorem hM12 : aMs 12 = some aM12 := rfl
set_option maxRecDepth 20000 in
theorem hM13 : aMs 13 = some aM13 := rfl
set_option maxRecDepth 20000 in
theorem hM14 : aMs 14 = some aM14 := rfl
set_option maxRecDepth 20000 in
theorem hM15 : aMs 15 = some aM15 := rfl
set_option maxRecDepth 20000 in
theorem hM16 : aMs 16 = some aM16 := rfl
set_option maxRecDepth 20000 in
theorem hM17 : aMs 17 = some aM17 := rfl
set_option maxRecDepth 20000 in
theorem hM19 : aMs 19 = some aM19 := rfl
set_option maxRecDepth 20000 in
theorem hM20 : aMs 20 = some aM20 := rfl
set_option maxRecDepth 20000 in
theorem hM21 : aMs 21 = some aM21 := rfl
set_option maxRecDepth 20000 in
theorem hM22 : aMs 22 = some aM22 := rfl
set_option maxRecDepth 20000 in
theorem hM24 : aMs 24 = some aM24 := rfl
set_option maxRecDepth 20000 in
theorem hM25 : aMs 25 = some aM25 := rfl
set_option maxRecDepth 20000 in
theorem hM26 : aMs 26 = some aM26 := rfl
set_option maxRecDepth 20000 in
theorem hM27 : aMs 27 = some aM27 := rfl
set_option maxRecDepth 20000 in
theorem hM28 : aMs 28 = some aM28 := rfl
set_option maxRecDepth 20000 in
theorem hM29 : aMs 29 = some aM29 := rfl
set_option maxRecDepth 20000 in
theorem hM30 : aMs 30 = some aM30 := rfl
set_option maxRecDepth 20000 in
theorem hM31 : aMs 31 = some aM31 := rfl
set_option maxRecDepth 20000 in
theorem hM32 : aMs 32 = some aM32 := rfl
set_option maxRecDepth 20000 in
theorem hM33 : aMs 33 = some aM33 := rfl
set_option maxRecDepth 20000 in
theorem hM34 : aMs 34 = some aM34 := rfl
set_option maxRecDepth 20000 in
theorem hM35 : aMs 35 = some aM35 := rfl
set_option maxRecDepth 20000 in
theorem hM36 : aMs 36 = some aM36 := rfl
set_option maxRecDepth 20000 in
theorem hM37 : aMs 37 = some aM37 := rfl
set_option maxRecDepth 20000 in
theorem hM39 : aMs 39 = some aM39 := rfl
set_option maxRecDepth 20000 in
theorem hM40 : aMs 40 = some aM40 := rfl
set_option maxRecDepth 20000 in
theorem hM41 : aMs 41 = some aM41 := rfl
set_option maxRecDepth 20000 in
theorem hM42 : aMs 42 = some aM42 := rfl
set_option maxRecDepth 20000 in
theorem hM43 : aMs 43 = some aM43 := rfl
set_option maxRecDepth 20000 in
theorem hM44 : aMs 44 = some aM44 := rfl
set_option maxRecDepth 20000 in
theorem hM45 : aMs 45 = some aM45 := rfl
set_option maxRecDepth 20000 in
theorem hM46 : aMs 46 = some aM46 := rfl
set_option maxRecDepth 20000 in
theorem hM47 : aMs 47 = some aM47 := rfl
set_option maxRecDepth 20000 in
theorem hM48 : aMs 48 = some aM48 := rfl
set_option maxRecDepth 20000 in
theorem hM50 : aMs 50 = some aM50 := rfl
set_option maxRecDepth 20000 in
theorem hM51 : aMs 51 = some aM51 := rfl
set_option maxRecDepth 20000 in
theorem hM52 : aMs 52 = some aM52 := rfl
set_option maxRecDepth 20000 in
theorem hM53 : aMs 53 = some aM53 := rfl
set_option maxRecDepth 20000 in
theorem hM54 : aMs 54 = some aM54 := rfl
set_option maxRecDepth 20000 in
theorem hM56 : aMs 56 = some aM56 := rfl
set_option maxRecDepth 20000 in
theorem hM57 : aMs 57 = some aM57 := rfl
set_option maxRecDepth 20000 in
theorem hM58 : aMs 58 = some aM58 := rfl
set_option maxRecDepth 20000 in
theorem hM59 : aMs 59 = some aM59 := rfl
set_option maxRecDepth 20000 in
theorem hM60 : aMs 60 = some aM60 := rfl
set_option maxRecDepth 20000 in
theorem hM61 : aMs 61 = some aM61 := rfl
set_option maxRecDepth 20000 in
theorem hM62 : aMs 62 = some aM62 := rfl
set_option maxRecDepth 20000 in
theorem hM63 : aMs 63 = some aM63 := rfl
set_option maxRecDepth 20000 in
theorem hM64 : aMs 64 = some aM64 := rfl
set_option maxRecDepth 20000 in
theorem hM65 : aMs 65 = some aM65 := rfl
set_option maxRecDepth 20000 in
theorem hM66 : aMs 66 = some aM66 := rfl
set_option maxRecDepth 20000 in
theorem hM67 : aMs 67 = some aM67 := rfl
set_option maxRecDepth 20000 in
theorem hM68 : aMs 68 = some aM68 := rfl
set_option maxRecDepth 20000 in
theorem hM69 : aMs 69 = some aM69 := rfl
set_option maxRecDepth 20000 in
theorem hM70 : aMs 70 = some aM70 := rfl
set_option maxRecDepth 20000 in
theorem hM71 : aMs 71 = some aM71 := rfl
set_option maxRecDepth 20000 in
theorem hM73 : aMs 73 = some aM73 := rfl
set_option maxRecDepth 20000 in
theorem hM74 : aMs 74 = some aM74 := rfl
set_option maxRecDepth 20000 in
theorem hM75 : aMs 75 = some aM75 := rfl
set_option maxRecDepth 20000 in
theorem hM76 : aMs 76 = some aM76 := rfl
set_option maxRecDepth 20000 in
theorem hM77 : aMs 77 = some aM77 := rfl
set_option maxRecDepth 20000 in
theorem hM78 : aMs 78 = some aM78 := rfl
set_option maxRecDepth 20000 in
theorem hM79 : aMs 79 = some aM79 := rfl
set_option maxRecDepth 20000 in
theorem hM80 : aMs 80 = some aM80 := rfl
set_option maxRecDepth 20000 in
theorem hM81 : aMs 81 = some aM81 := rfl
set_option maxRecDepth 20000 in
theorem hM82 : aMs 82 = some aM82 := rfl
set_option maxRecDepth 20000 in
theorem hM83 : aMs 83 = some aM83 := rfl
set_option maxRecDepth 20000 in
theorem hM84 : aMs 84 = some aM84 := rfl
set_option maxRecDepth 20000 in
theorem hM85 : aMs 85 = some aM85 := rfl
set_option maxRecDepth 20000 in
theorem hM87 : aMs 87 = some aM87 := rfl
set_option maxRecDepth 20000 in
theorem hM88 : aMs 88 = some aM88 := rfl
set_option maxRecDepth 20000 in
theorem hM89 : aMs 89 = some aM89 := rfl
set_option maxRecDepth 20000 in
theorem hM90 : aMs 90 = some aM90 := rfl
set_option maxRecDepth 20000 in
theorem hM91 : aMs 91 = some aM91 := rfl
set_option maxRecDepth 20000 in
theorem hM92 : aMs 92 = some aM92 := rfl
set_option maxRecDepth 20000 in
theorem hM93 : aMs 93 = some aM93 := rfl
set_option maxRecDepth 20000 in
theorem hM94 : aMs 94 = some aM94 := rfl
set_option maxRecDepth 20000 in
theorem hM95 : aMs 95 = some aM95 := rfl
set_option maxRecDepth 20000 in
theorem hM96 : aMs 96 = some aM96 := rfl
set_option maxRecDepth 20000 in
theorem hM97 : aMs 97 = some aM97 := rfl
set_option maxRecDepth 20000 in
theorem hM99 : aMs 99 = some aM99 := rfl
set_option maxRecDepth 20000 in
theorem hM101 : aMs 101 = some aM101 := rfl
set_option maxRecDepth 20000 in
theorem hM102 : aMs 102 = some aM102 := rfl
set_option maxRecDepth 20000 in
theorem hM103 : aMs 103 = some aM103 := rfl
set_option maxRecDepth 20000 in
theorem hM104 : aMs 104 = some aM104 := rfl
set_option maxRecDepth 20000 in
theorem hM105 : aMs 105 = some aM105 := rfl
set_option maxRecDepth 20000 in
theorem hM106 : aMs 106 = some aM106 := rfl
set_option maxRecDepth 20000 in
theorem hM107 : aMs 107 = some aM107 := rfl
set_option maxRecDepth 20000 in
theorem hM108 : aMs 108 = some aM108 := rfl
set_option maxRecDepth 20000 in
theorem hM109 : aMs 109 = some aM109 := rfl
set_option maxRecDepth 20000 in
theorem hM110 : aMs 110 = some aM110 := rfl
set_option maxRecDepth 20000 in
theorem hM111 : aMs 111 = some aM111 := rfl
set_option maxRecDepth 20000 in
theorem hM112 : aMs 112 = some aM112 := rfl
set_option maxRecDepth 20000 in
theorem hM113 : aMs 113 = some aM113 := rfl
set_option maxRecDepth 20000 in
theorem hM114 : aMs 114 = some aM114 := rfl
set_option maxRecDepth 20000 in
theorem hM115 : aMs 115 = some aM115 := rfl
set_option maxRecDepth 20000 in
theorem hM116 : aMs 116 = some aM116 := rfl
set_option maxRecDepth 20000 in
theorem hM117 : aMs 117 = some aM117 := rfl
set_option maxRecDepth 20000 in
theorem hM118 : aMs 118 = some aM118 := rfl
set_option maxRecDepth 20000 in
theorem hM119 : aMs 119 = some aM119 := rfl
set_option maxRecDepth 20000 in
theorem hM120 : aMs 120 = some aM120 := rfl
set_option maxRecDepth 20000 in
theorem hM121 : aMs 121 = some aM121 := rfl
set_option maxRecDepth 20000 in
theorem hM122 : aMs 122 = some aM122 := rfl
set_option maxRecDepth 20000 in
theorem hM123 : aMs 123 = some aM123 := rfl
set_option maxRecDepth 20000 in
theorem hM124 : aMs 124 = some aM124 := rfl
set_option maxRecDepth 20000 in
theorem hM125 : aMs 125 = some aM125 := rfl
set_option maxRecDepth 20000 in
theorem hM126 : aMs 126 = some aM126 := rfl
set_option maxRecDepth 20000 in
theorem hM127 : aMs 127 = some aM127 := rfl
set_option maxRecDepth 20000 in
theorem hM128 : aMs 128 = some aM128 := rfl
set_option maxRecDepth 20000 in
theorem hM129 : aMs 129 = some aM129 := rfl
set_option maxRecDepth 20000 in
theorem hM130 : aMs 130 = some aM130 := rfl
set_option maxRecDepth 20000 in
theorem hM131 : aMs 131 = some aM131 := rfl
set_option maxRecDepth 20000 in
theorem hM132 : aMs 132 = some aM132 := rfl
set_option maxRecDepth 20000 in
theorem hM133 : aMs 133 = some aM133 := rfl
set_option maxRecDepth 20000 in
theorem hM134 : aMs 134 = some aM134 := rfl
set_option maxRecDepth 20000 in
theorem hM135 : aMs 135 = some aM135 := rfl
set_option maxRecDepth 20000 in
theorem hM136 : aMs 136 = some aM136 := rfl
set_option maxRecDepth 20000 in
theorem hM137 : aMs 137 = some aM137 := rfl
set_option maxRecDepth 20000 in
theorem hM138 : aMs 138 = some aM138 := rfl
set_option maxRecDepth 20000 in
theorem hM139 : aMs 139 = some aM139 := rfl
set_option maxRecDepth 20000 in
theorem hM140 : aMs 140 = some aM140 := rfl
set_option maxRecDepth 20000 in
theorem hM141 : aMs 141 = some aM141 := rfl
set_option maxRecDepth 20000 in
theorem hM142 : aMs 142 = some aM142 := rfl
set_option maxRecDepth 20000 in
theorem hM143 : aMs 143 = some aM143 := rfl
set_option maxRecDepth 20000 in
theorem hM144 : aMs 144 = some aM144 := rfl
set_option maxRecDepth 20000 in
theorem hM145 : aMs 145 = some aM145 := rfl
set_option maxRecDepth 20000 in
theorem hM146 : aMs 146 = some aM146 := rfl
set_option maxRecDepth 20000 in
theorem hM147 : aMs 147 = some aM147 := rfl
set_option maxRecDepth 20000 in
theorem hM148 : aMs 148 = some aM148 := rfl
set_option maxRecDepth 20000 in
theorem hM150 : aMs 150 = some aM150 := rfl
set_option maxRecDepth 20000 in
theorem hM151 : aMs 151 = some aM151 := rfl
set_option maxRecDepth 20000 in
theorem hM152 : aMs 152 = some aM152 := rfl
set_option maxRecDepth 20000 in
theorem hM153 : aMs 153 = some aM153 := rfl
set_option maxRecDepth 20000 in
theorem hM154 : aMs 154 = some aM154 := rfl
set_option maxRecDepth 20000 in
theorem hM155 : aMs 155 = some aM155 := rfl
set_option maxRecDepth 20000 in
theorem hM156 : aMs 156 = some aM156 := rfl
set_option maxRecDepth 20000 in
theorem hM157 : aMs 157 = some aM157 := rfl
set_option maxRecDepth 20000 in
theorem hM158 : aMs 158 = some aM158 := rfl
set_option maxRecDepth 20000 in
theorem hM159 : aMs 159 = some aM159 := rfl
set_option maxRecDepth 20000 in
theorem hM160 : aMs 160 = some aM160 := rfl
set_option maxRecDepth 20000 in
theorem hM161 : aMs 161 = some aM161 := rfl
set_option maxRecDepth 20000 in
theorem hM162 : aMs 162 = some aM162 := rfl
set_option maxRecDepth 20000 in
theorem hM163 : aMs 163 = some aM163 := rfl
set_option maxRecDepth 20000 in
theorem hM164 : aMs 164 = some aM164 := rfl
set_option maxRecDepth 20000 in
theorem hM165 : aMs 165 = some aM165 := rfl
set_option maxRecDepth 20000 in
theorem hM166 : aMs 166 = some aM166 := rfl
set_option maxRecDepth 20000 in
theorem hM167 : aMs 167 = some aM167 := rfl
set_option maxRecDepth 20000 in
theorem hM168 : aMs 168 = some aM168 := rfl
set_option maxRecDepth 20000 in
theorem hM169 : aMs 169 = some aM169 := rfl
set_option maxRecDepth 20000 in
theorem hM170 : aMs 170 = some aM170 := rfl
set_option maxRecDepth 20000 in
theorem hM171 : aMs 171 = some aM171 := rfl
set_option maxRecDepth 20000 in
theorem hM172 : aMs 172 = some aM172 := rfl
set_option maxRecDepth 20000 in
theorem hM173 : aMs 173 = some aM173 := rfl
set_option maxRecDepth 20000 in
theorem hM174 : aMs 174 = some aM174 := rfl
set_option maxRecDepth 20000 in
theorem hM175 : aMs 175 = some aM175 := rfl
set_option maxRecDepth 20000 in
theorem hM176 : aMs 176 = some aM176 := rfl
set_option maxRecDepth 20000 in
theorem hM177 : aMs 177 = some aM177 := rfl
set_option maxRecDepth 20000 in
theorem hM178 : aMs 178 = some aM178 := rfl
set_option maxRecDepth 20000 in
theorem hM179 : aMs 179 = some aM179 := rfl
set_option maxRecDepth 20000 in
theorem hM180 : aMs 180 = some aM180 := rfl
set_option maxRecDepth 20000 in
theorem hM181 : aMs 181 = some aM181 := rfl
set_option maxRecDepth 20000 in
theorem hM182 : aMs 182 = some aM182 := rfl
set_option maxRecDepth 20000 in
theorem hM183 : aMs 183 = some aM183 := rfl
set_option maxRecDepth 20000 in
theorem hM184 : aMs 184 = some aM184 := rfl
set_option maxRecDepth 20000 in
theorem hM185 : aMs 185 = some aM185 := rfl
set_option maxRecDepth 20000 in
theorem hM186 : aMs 186 = some aM186 := rfl
set_option maxRecDepth 20000 in
theorem hM187 : aMs 187 = some aM187 := rfl
set_option maxRecDepth 20000 in
theorem hM188 : aMs 188 = some aM188 := rfl
set_option maxRecDepth 20000 in
theorem hM189 : aMs 189 = some aM189 := rfl
set_option maxRecDepth 20000 in
theorem hM190 : aMs 190 = some aM190 := rfl
set_option maxRecDepth 20000 in
theorem hM191 : aMs 191 = some aM191 := rfl
set_option maxRecDepth 20000 in
theorem hM192 : aMs 192 = some aM192 := rfl
set_option maxRecDepth 20000 in
theorem hM193 : aMs 193 = some aM193 := rfl
set_option maxRecDepth 20000 in
theorem hM194 : aMs 194 = some aM194 := rfl
set_option maxRecDepth 20000 in
theorem hM195 : aMs 195 = some aM195 := rfl
set_option maxRecDepth 20000 in
theorem hM196 : aMs 196 = some aM196 := rfl
set_option maxRecDepth 20000 in
theorem hM197 : aMs 197 = some aM197 := rfl
set_option maxRecDepth 20000 in
theorem hM198 : aMs 198 = some aM198 := rfl
set_option maxRecDepth 20000 in
theorem hM199 : aMs 199 = some aM199 := rfl
set_option maxRecDepth 20000 in
theorem hM200 : aMs 200 = some aM200 := rfl
set_option maxRecDepth 20000 in
theorem hM201 : aMs 201 = some aM201 := rfl
set_option maxRecDepth 20000 in
theorem hM202 : aMs 202 = some aM202 := rfl
set_option maxRecDepth 20000 in
theorem hM203 : aMs 203 = some aM203 := rfl
set_option maxRecDepth 20000 in
theorem hM204 : aMs 204 = some aM204 := rfl
set_option maxRecDepth 20000 in
theorem hM205 : aMs 205 = some aM205 := rfl
set_option maxRecDepth 20000 in
theorem hM206 : aMs 206 = some aM206 := rfl
set_option maxRecDepth 20000 in
theorem hM207 : aMs 207 = some aM207 := rfl
set_option maxRecDepth 20000 in
theorem hM208 : aMs 208 = some aM208 := rfl
set_option maxRecDepth 20000 in
theorem hM209 : aMs 209 = some aM209 := rfl
set_option maxRecDepth 20000 in
theorem hM210 : aMs 210 = some aM210 := rfl
set_option maxRecDepth 20000 in
theorem hM211 : aMs 211 = some aM211 := rfl
set_option maxRecDepth 20000 in
theorem hM212 : aMs 212 = some aM212 := rfl
set_option maxRecDepth 20000 in
theorem hM213 : aMs 213 = some aM213 := rfl
set_option maxRecDepth 20000 in
theorem hM214 : aMs 214 = some aM214 := rfl
set_option maxRecDepth 20000 in
theorem hM215 : aMs 215 = some aM215 := rfl
set_option maxRecDepth 20000 in
theorem hM216 : aMs 216 = some aM216 := rfl
set_option maxRecDepth 20000 in
theorem hM217 : aMs 217 = some aM217 := rfl
set_option maxRecDepth 20000 in
theorem hM218 : aMs 218 = some aM218 := rfl
set_option maxRecDepth 20000 in
theorem hM219 : aMs 219 = some aM219 := rfl
set_option maxRecDepth 20000 in
theorem hM220 : aMs 220 = some aM220 := rfl
set_option maxRecDepth 20000 in
theorem hM221 : aMs 221 = some aM221 := rfl
set_option maxRecDepth 20000 in
theorem hM222 : aMs 222 = some aM222 := rfl
set_option maxRecDepth 20000 in
theorem hM223 : aMs 223 = some aM223 := rfl
set_option maxRecDepth 20000 in
theorem hM224 : aMs 224 = some aM224 := rfl
set_option maxRecDepth 20000 in
theorem hM225 : aMs 225 = some aM225 := rfl
set_option maxRecDepth 20000 in
theorem hM226 : aMs 226 = some aM226 := rfl
set_option maxRecDepth 20000 in
theorem hM227 : aMs 227 = some aM227 := rfl
set_option maxRecDepth 20000 in
theorem hM228 : aMs 228 = some aM228 := rfl
set_option maxRecDepth 20000 in
theorem hM229 : aMs 229 = some aM229 := rfl
set_option maxRecDepth 20000 in
theorem hM230 : aMs 230 = some aM230 := rfl
set_option maxRecDepth 20000 in
theorem hM231 : aMs 231 = some aM231 := rfl
set_option maxRecDepth 20000 in
theorem hM232 : aMs 232 = some aM232 := rfl
set_option maxRecDepth 20000 in
theorem hM233 : aMs 233 = some aM233 := rfl
set_option maxRecDepth 20000 in
theorem hM234 : aMs 234 = some aM234 := rfl
set_option maxRecDepth 20000 in
theorem hM235 : aMs 235 = some aM235 := rfl
set_option maxRecDepth 20000 in
theorem hM236 : aMs 236 = some aM236 := rfl
set_option maxRecDepth 20000 in
theorem hM237 : aMs 237 = some aM237 := rfl
set_option maxRecDepth 20000 in
theorem hM238 : aMs 238 = some aM238 := rfl
set_option maxRecDepth 20000 in
theorem hM239 : aMs 239 = some aM239 := rfl
set_option maxRecDepth 20000 in
theorem hM240 : aMs 240 = some aM240 := rfl
set_option maxRecDepth 20000 in
theorem hM241 : aMs 241 = some aM241 := rfl
set_option maxRecDepth 20000 in
theorem hM242 : aMs 242 = some aM242 := rfl
set_option maxRecDepth 20000 in
theorem hM243 : aMs 243 = some aM243 := rfl
set_option maxRecDepth 20000 in
theorem hM244 : aMs 244 = some aM244 := rfl
set_option maxRecDepth 20000 in
theorem hM245 : aMs 245 = some aM245 := rfl
set_option maxRecDepth 20000 in
theorem hM246 : aMs 246 = some aM246 := rfl
set_option maxRecDepth 20000 in
theorem hM247 : aMs 247 = some aM247 := rfl
set_option maxRecDepth 20000 in
theorem hM248 : aMs 248 = some aM248 := rfl
set_option maxRecDepth 20000 in
theorem hM249 : aMs 249 = some aM249 := rfl
set_option maxRecDepth 20000 in
theorem hM250 : aMs 250 = some aM250 := rfl
set_option maxRecDepth 20000 in
theorem hM251 : aMs 251 = some aM251 := rfl
set_option maxRecDepth 20000 in
theorem hM252 : aMs 252 = some aM252 := rfl
set_option maxRecDepth 20000 in
theorem hM253 : aMs 253 = some aM253 := rfl
set_option maxRecDepth 20000 in
theorem hM254 : aMs 254 = some aM254 := rfl
set_option maxRecDepth 20000 in
theorem hM255 : aMs 255 = some aM255 := rfl
set_option maxRecDepth 20000 in
theorem hM256 : aMs 256 = some aM256 := rfl
set_option maxRecDepth 20000 in
theorem hM257 : aMs 257 = some aM257 := rfl
set_option maxRecDepth 20000 in
theorem hM258 : aMs 258 = some aM258 := rfl
set_option maxRecDepth 20000 in
theorem hM259 : aMs 259 = some aM259 := rfl
set_option maxRecDepth 20000 in
theorem hM260 : aMs 260 = some aM260 := rfl
set_option maxRecDepth 20000 in
theorem hM261 : aMs 261 = some aM261 := rfl
set_option maxRecDepth 20000 in
theorem hM262 : aMs 262 = some aM262 := rfl
set_option maxRecDepth 20000 in
theorem hM263 : aMs 263 = some aM263 := rfl
set_option maxRecDepth 20000 in
theorem hM264 : aMs 264 = some aM264 := rfl
set_option maxRecDepth 20000 in
theorem hM265 : aMs 265 = some aM265 := rfl
set_option maxRecDepth 20000 in
theorem hM266 : aMs 266 = some aM266 := rfl
set_option maxRecDepth 20000 in
theorem hM267 : aMs 267 = some aM267 := rfl
set_option maxRecDepth 20000 in
theorem hM268 : aMs 268 = some aM268 := rfl
set_option maxRecDepth 20000 in
theorem hM269 : aMs 269 = some aM269 := rfl
set_option maxRecDepth 20000 in
theorem hM270 : aMs 270 = some aM270 := rfl
set_option maxRecDepth 20000 in
theorem hM271 : aMs 271 = some aM271 := rfl
set_option maxRecDepth 20000 in
theorem hM272 : aMs 272 = some aM272 := rfl
set_option maxRecDepth 20000 in
theorem hM273 : aMs 273 = some aM273 := rfl
set_option maxRecDepth 20000 in
theorem hM274 : aMs 274 = some aM274 := rfl
set_option maxRecDepth 20000 in
theorem hM275 : aMs 275 = some aM275 := rfl
set_option maxRecDepth 20000 in
theorem hM276 : aMs 276 = some aM276 := rfl
set_option maxRecDepth 20000 in
theorem hM277 : aMs 277 = some aM277 := rfl
set_option maxRecDepth 20000 in
theorem hM278 : aMs 278 = some aM278 := rfl
set_option maxRecDepth 20000 in
theorem hM279 : aMs 279 = some aM279 := rfl
set_option maxRecDepth 20000 in
theorem hM280 : aMs 280 = some aM280 := rfl
set_option maxRecDepth 20000 in
theorem hM281 : aMs 281 = some aM281 := rfl
set_option maxRecDepth 20000 in
theorem hM282 : aMs 282 = some aM282 := rfl
set_option maxRecDepth 20000 in
theorem hM283 : aMs 283 = some aM283 := rfl
set_option maxRecDepth 20000 in
theorem hM284 : aMs 284 = some aM284 := rfl
set_option maxRecDepth 20000 in
theorem hM285 : aMs 285 = some aM285 := rfl
set_option maxRecDepth 20000 in
theorem hM286 : aMs 286 = some aM286 := rfl
set_option maxRecDepth 20000 in
theorem hM287 : aMs 287 = some aM287 := rfl
set_option maxRecDepth 20000 in
theorem hM288 : aMs 288 = some aM288 := rfl
set_option maxRecDepth 20000 in
theorem hM289 : aMs 289 = some aM289 := rfl
set_option maxRecDepth 20000 in
theorem hM290 : aMs 290 = some aM290 := rfl
set_option maxRecDepth 20000 in
theorem hM291 : aMs 291 = some aM291 := rfl
set_option maxRecDepth 20000 in
theorem hM293 : aMs 293 = some aM293 := rfl
set_option maxRecDepth 20000 in
theorem hM295 : aMs 295 = some aM295 := rfl
def zRf1 : Nat := 40
def zRf2 : Nat := 8
