/-! what the constructors leave for good -/
def fTab : List (Int × Int × Int) := [(0, 0, 1), (0, 1, 8), (0, 2, 9), (0, 3, 10), (0, 4, 13), (0, 5, 16), (0, 6, 18), (0, 8, 20), (0, 9, 22), (0, 10, 30), (0, 11, 41), (0, 12, 44), (0, 13, 49), (0, 14, 50), (0, 15, 51), (1, 0, 2), (1, 1, 4), (1, 2, 5), (1, 3, 6), (1, 5, 7), (2, 0, 3), (10, 0, 11), (10, 1, 12), (13, 0, 14), (13, 1, 15), (16, 0, 17), (18, 0, 19), (20, 0, 21), (20, 1, 27), (21, 0, 22), (21, 1, 24), (21, 2, 25), (21, 3, 26), (22, 0, 23), (27, 0, 28), (27, 1, 29), (30, 0, 31), (30, 1, 33), (30, 7, 36), (30, 8, 37), (30, 9, 38), (30, 10, 39), (30, 11, 40), (31, 0, 32), (34, 0, 35), (41, 0, 42), (41, 2, 43), (44, 0, 45), (44, 1, 47), (44, 2, 48), (45, 0, 46), (52, 0, 53), (52, 1, 55), (52, 2, 56), (52, 3, 57), (52, 5, 58), (53, 0, 54), (59, 0, 60), (59, 1, 62), (59, 2, 63), (59, 3, 64), (59, 5, 65), (60, 0, 61), (66, 2, 67), (66, 3, 68), (66, 4, 69), (66, 5, 70), (66, 6, 71), (66, 7, 72), (66, 9, 73), (66, 10, 74), (66, 12, 75), (66, 22, 76), (66, 24, 77), (66, 25, 78), (66, 27, 79), (66, 28, 80), (66, 31, 81), (66, 32, 82), (66, 33, 83), (66, 35, 84), (66, 36, 85), (66, 37, 86), (66, 41, 87), (66, 42, 88), (66, 43, 89), (66, 44, 90), (66, 45, 91), (66, 46, 92), (66, 48, 93), (66, 54, 94), (66, 55, 95), (66, 57, 96), (66, 58, 97), (66, 60, 98), (66, 63, 99), (66, 64, 100), (66, 65, 101), (66, 66, 102), (66, 67, 103), (66, 73, 104)]
def KS (K : Int → Nat × Nat) : Prop := ∀ a : Nat, a < 105 → K (a : Int) = kTab.getD a (99, 0)
def FS (F : Int → Int → Int) : Prop := ∀ t ∈ fTab, F t.1 t.2.1 = t.2.2
theorem KS.k0 {K : Int → Nat × Nat} (h : KS K) : K 0 = (11, 0) := h 0 (by decide)
theorem KS.k1 {K : Int → Nat × Nat} (h : KS K) : K 1 = (1, 0) := h 1 (by decide)
theorem KS.k2 {K : Int → Nat × Nat} (h : KS K) : K 2 = (0, 0) := h 2 (by decide)
theorem KS.k3 {K : Int → Nat × Nat} (h : KS K) : K 3 = (20, 117) := h 3 (by decide)
theorem KS.k4 {K : Int → Nat × Nat} (h : KS K) : K 4 = (20, 3) := h 4 (by decide)
theorem KS.k5 {K : Int → Nat × Nat} (h : KS K) : K 5 = (20, 6) := h 5 (by decide)
theorem KS.k6 {K : Int → Nat × Nat} (h : KS K) : K 6 = (20, 6) := h 6 (by decide)
theorem KS.k7 {K : Int → Nat × Nat} (h : KS K) : K 7 = (25, 6) := h 7 (by decide)
theorem KS.k8 {K : Int → Nat × Nat} (h : KS K) : K 8 = (24, 2) := h 8 (by decide)
theorem KS.k9 {K : Int → Nat × Nat} (h : KS K) : K 9 = (23, 2) := h 9 (by decide)
theorem KS.k10 {K : Int → Nat × Nat} (h : KS K) : K 10 = (3, 0) := h 10 (by decide)
theorem KS.k11 {K : Int → Nat × Nat} (h : KS K) : K 11 = (20, 16) := h 11 (by decide)
theorem KS.k12 {K : Int → Nat × Nat} (h : KS K) : K 12 = (20, 1872) := h 12 (by decide)
theorem KS.k13 {K : Int → Nat × Nat} (h : KS K) : K 13 = (3, 0) := h 13 (by decide)
theorem KS.k14 {K : Int → Nat × Nat} (h : KS K) : K 14 = (20, 16) := h 14 (by decide)
theorem KS.k15 {K : Int → Nat × Nat} (h : KS K) : K 15 = (20, 1872) := h 15 (by decide)
theorem KS.k16 {K : Int → Nat × Nat} (h : KS K) : K 16 = (0, 0) := h 16 (by decide)
theorem KS.k17 {K : Int → Nat × Nat} (h : KS K) : K 17 = (20, 117) := h 17 (by decide)
theorem KS.k18 {K : Int → Nat × Nat} (h : KS K) : K 18 = (0, 0) := h 18 (by decide)
theorem KS.k19 {K : Int → Nat × Nat} (h : KS K) : K 19 = (20, 117) := h 19 (by decide)
theorem KS.k20 {K : Int → Nat × Nat} (h : KS K) : K 20 = (5, 0) := h 20 (by decide)
theorem KS.k21 {K : Int → Nat × Nat} (h : KS K) : K 21 = (10, 0) := h 21 (by decide)
theorem KS.k22 {K : Int → Nat × Nat} (h : KS K) : K 22 = (8, 0) := h 22 (by decide)
theorem KS.k23 {K : Int → Nat × Nat} (h : KS K) : K 23 = (22, 400) := h 23 (by decide)
theorem KS.k24 {K : Int → Nat × Nat} (h : KS K) : K 24 = (20, 401) := h 24 (by decide)
theorem KS.k25 {K : Int → Nat × Nat} (h : KS K) : K 25 = (20, 401) := h 25 (by decide)
theorem KS.k26 {K : Int → Nat × Nat} (h : KS K) : K 26 = (20, 401) := h 26 (by decide)
theorem KS.k27 {K : Int → Nat × Nat} (h : KS K) : K 27 = (9, 0) := h 27 (by decide)
theorem KS.k28 {K : Int → Nat × Nat} (h : KS K) : K 28 = (20, 72) := h 28 (by decide)
theorem KS.k29 {K : Int → Nat × Nat} (h : KS K) : K 29 = (20, 800) := h 29 (by decide)
theorem KS.k30 {K : Int → Nat × Nat} (h : KS K) : K 30 = (6, 0) := h 30 (by decide)
theorem KS.k31 {K : Int → Nat × Nat} (h : KS K) : K 31 = (4, 0) := h 31 (by decide)
theorem KS.k32 {K : Int → Nat × Nat} (h : KS K) : K 32 = (21, 64) := h 32 (by decide)
theorem KS.k33 {K : Int → Nat × Nat} (h : KS K) : K 33 = (20, 9) := h 33 (by decide)
theorem KS.k34 {K : Int → Nat × Nat} (h : KS K) : K 34 = (0, 0) := h 34 (by decide)
theorem KS.k35 {K : Int → Nat × Nat} (h : KS K) : K 35 = (20, 117) := h 35 (by decide)
theorem KS.k36 {K : Int → Nat × Nat} (h : KS K) : K 36 = (20, 3) := h 36 (by decide)
theorem KS.k37 {K : Int → Nat × Nat} (h : KS K) : K 37 = (20, 6) := h 37 (by decide)
theorem KS.k38 {K : Int → Nat × Nat} (h : KS K) : K 38 = (20, 4) := h 38 (by decide)
theorem KS.k39 {K : Int → Nat × Nat} (h : KS K) : K 39 = (20, 297) := h 39 (by decide)
theorem KS.k40 {K : Int → Nat × Nat} (h : KS K) : K 40 = (20, 99) := h 40 (by decide)
theorem KS.k41 {K : Int → Nat × Nat} (h : KS K) : K 41 = (2, 0) := h 41 (by decide)
theorem KS.k42 {K : Int → Nat × Nat} (h : KS K) : K 42 = (20, 297) := h 42 (by decide)
theorem KS.k43 {K : Int → Nat × Nat} (h : KS K) : K 43 = (20, 99) := h 43 (by decide)
theorem KS.k44 {K : Int → Nat × Nat} (h : KS K) : K 44 = (7, 0) := h 44 (by decide)
theorem KS.k45 {K : Int → Nat × Nat} (h : KS K) : K 45 = (4, 0) := h 45 (by decide)
theorem KS.k46 {K : Int → Nat × Nat} (h : KS K) : K 46 = (21, 64) := h 46 (by decide)
theorem KS.k47 {K : Int → Nat × Nat} (h : KS K) : K 47 = (20, 12) := h 47 (by decide)
theorem KS.k48 {K : Int → Nat × Nat} (h : KS K) : K 48 = (20, 3) := h 48 (by decide)
theorem KS.k49 {K : Int → Nat × Nat} (h : KS K) : K 49 = (20, 5) := h 49 (by decide)
theorem KS.k50 {K : Int → Nat × Nat} (h : KS K) : K 50 = (20, 4) := h 50 (by decide)
theorem KS.k51 {K : Int → Nat × Nat} (h : KS K) : K 51 = (20, 10) := h 51 (by decide)
theorem KS.k52 {K : Int → Nat × Nat} (h : KS K) : K 52 = (1, 0) := h 52 (by decide)
theorem KS.k53 {K : Int → Nat × Nat} (h : KS K) : K 53 = (0, 0) := h 53 (by decide)
theorem KS.k54 {K : Int → Nat × Nat} (h : KS K) : K 54 = (20, 117) := h 54 (by decide)
theorem KS.k55 {K : Int → Nat × Nat} (h : KS K) : K 55 = (20, 3) := h 55 (by decide)
theorem KS.k56 {K : Int → Nat × Nat} (h : KS K) : K 56 = (20, 6) := h 56 (by decide)
theorem KS.k57 {K : Int → Nat × Nat} (h : KS K) : K 57 = (20, 6) := h 57 (by decide)
theorem KS.k58 {K : Int → Nat × Nat} (h : KS K) : K 58 = (25, 6) := h 58 (by decide)
theorem KS.k59 {K : Int → Nat × Nat} (h : KS K) : K 59 = (1, 0) := h 59 (by decide)
theorem KS.k60 {K : Int → Nat × Nat} (h : KS K) : K 60 = (0, 0) := h 60 (by decide)
theorem KS.k61 {K : Int → Nat × Nat} (h : KS K) : K 61 = (20, 117) := h 61 (by decide)
theorem KS.k62 {K : Int → Nat × Nat} (h : KS K) : K 62 = (20, 3) := h 62 (by decide)
theorem KS.k63 {K : Int → Nat × Nat} (h : KS K) : K 63 = (20, 6) := h 63 (by decide)
theorem KS.k64 {K : Int → Nat × Nat} (h : KS K) : K 64 = (20, 6) := h 64 (by decide)
theorem KS.k65 {K : Int → Nat × Nat} (h : KS K) : K 65 = (25, 6) := h 65 (by decide)
theorem KS.k66 {K : Int → Nat × Nat} (h : KS K) : K 66 = (12, 0) := h 66 (by decide)
theorem KS.k67 {K : Int → Nat × Nat} (h : KS K) : K 67 = (20, 7) := h 67 (by decide)
theorem KS.k68 {K : Int → Nat × Nat} (h : KS K) : K 68 = (20, 5535) := h 68 (by decide)
theorem KS.k69 {K : Int → Nat × Nat} (h : KS K) : K 69 = (20, 11070) := h 69 (by decide)
theorem KS.k70 {K : Int → Nat × Nat} (h : KS K) : K 70 = (23, 2) := h 70 (by decide)
theorem KS.k71 {K : Int → Nat × Nat} (h : KS K) : K 71 = (20, 2223) := h 71 (by decide)
theorem KS.k72 {K : Int → Nat × Nat} (h : KS K) : K 72 = (20, 16) := h 72 (by decide)
theorem KS.k73 {K : Int → Nat × Nat} (h : KS K) : K 73 = (20, 1872) := h 73 (by decide)
theorem KS.k74 {K : Int → Nat × Nat} (h : KS K) : K 74 = (20, 16) := h 74 (by decide)
theorem KS.k75 {K : Int → Nat × Nat} (h : KS K) : K 75 = (20, 400) := h 75 (by decide)
theorem KS.k76 {K : Int → Nat × Nat} (h : KS K) : K 76 = (20, 96) := h 76 (by decide)
theorem KS.k77 {K : Int → Nat × Nat} (h : KS K) : K 77 = (20, 400) := h 77 (by decide)
theorem KS.k78 {K : Int → Nat × Nat} (h : KS K) : K 78 = (20, 400) := h 78 (by decide)
theorem KS.k79 {K : Int → Nat × Nat} (h : KS K) : K 79 = (20, 400) := h 79 (by decide)
theorem KS.k80 {K : Int → Nat × Nat} (h : KS K) : K 80 = (20, 400) := h 80 (by decide)
theorem KS.k81 {K : Int → Nat × Nat} (h : KS K) : K 81 = (21, 9) := h 81 (by decide)
theorem KS.k82 {K : Int → Nat × Nat} (h : KS K) : K 82 = (21, 7) := h 82 (by decide)
theorem KS.k83 {K : Int → Nat × Nat} (h : KS K) : K 83 = (21, 2) := h 83 (by decide)
theorem KS.k84 {K : Int → Nat × Nat} (h : KS K) : K 84 = (21, 13) := h 84 (by decide)
theorem KS.k85 {K : Int → Nat × Nat} (h : KS K) : K 85 = (21, 13) := h 85 (by decide)
theorem KS.k86 {K : Int → Nat × Nat} (h : KS K) : K 86 = (21, 400) := h 86 (by decide)
theorem KS.k87 {K : Int → Nat × Nat} (h : KS K) : K 87 = (20, 12) := h 87 (by decide)
theorem KS.k88 {K : Int → Nat × Nat} (h : KS K) : K 88 = (20, 4) := h 88 (by decide)
theorem KS.k89 {K : Int → Nat × Nat} (h : KS K) : K 89 = (20, 4) := h 89 (by decide)
theorem KS.k90 {K : Int → Nat × Nat} (h : KS K) : K 90 = (20, 4) := h 90 (by decide)
theorem KS.k91 {K : Int → Nat × Nat} (h : KS K) : K 91 = (20, 4) := h 91 (by decide)
theorem KS.k92 {K : Int → Nat × Nat} (h : KS K) : K 92 = (20, 4) := h 92 (by decide)
theorem KS.k93 {K : Int → Nat × Nat} (h : KS K) : K 93 = (20, 2) := h 93 (by decide)
theorem KS.k94 {K : Int → Nat × Nat} (h : KS K) : K 94 = (20, 297) := h 94 (by decide)
theorem KS.k95 {K : Int → Nat × Nat} (h : KS K) : K 95 = (20, 99) := h 95 (by decide)
theorem KS.k96 {K : Int → Nat × Nat} (h : KS K) : K 96 = (20, 4) := h 96 (by decide)
theorem KS.k97 {K : Int → Nat × Nat} (h : KS K) : K 97 = (20, 297) := h 97 (by decide)
theorem KS.k98 {K : Int → Nat × Nat} (h : KS K) : K 98 = (20, 99) := h 98 (by decide)
theorem KS.k99 {K : Int → Nat × Nat} (h : KS K) : K 99 = (20, 4) := h 99 (by decide)
theorem KS.k100 {K : Int → Nat × Nat} (h : KS K) : K 100 = (20, 10) := h 100 (by decide)
theorem KS.k101 {K : Int → Nat × Nat} (h : KS K) : K 101 = (21, 21) := h 101 (by decide)
theorem KS.k102 {K : Int → Nat × Nat} (h : KS K) : K 102 = (21, 4) := h 102 (by decide)
theorem KS.k103 {K : Int → Nat × Nat} (h : KS K) : K 103 = (20, 120) := h 103 (by decide)
theorem KS.k104 {K : Int → Nat × Nat} (h : KS K) : K 104 = (20, 7) := h 104 (by decide)
theorem FS.f0_0 {F : Int → Int → Int} (h : FS F) : F 0 0 = 1 := h (0, 0, 1) (List.mem_of_getElem? (i := 0) rfl) -- now
theorem FS.f0_1 {F : Int → Int → Int} (h : FS F) : F 0 1 = 8 := h (0, 1, 8) (List.mem_of_getElem? (i := 1) rfl) -- images
theorem FS.f0_2 {F : Int → Int → Int} (h : FS F) : F 0 2 = 9 := h (0, 2, 9) (List.mem_of_getElem? (i := 2) rfl) -- isKept
theorem FS.f0_3 {F : Int → Int → Int} (h : FS F) : F 0 3 = 10 := h (0, 3, 10) (List.mem_of_getElem? (i := 3) rfl) -- log
theorem FS.f0_4 {F : Int → Int → Int} (h : FS F) : F 0 4 = 13 := h (0, 4, 13) (List.mem_of_getElem? (i := 4) rfl) -- logBefore
theorem FS.f0_5 {F : Int → Int → Int} (h : FS F) : F 0 5 = 16 := h (0, 5, 16) (List.mem_of_getElem? (i := 5) rfl) -- spare
theorem FS.f0_6 {F : Int → Int → Int} (h : FS F) : F 0 6 = 18 := h (0, 6, 18) (List.mem_of_getElem? (i := 6) rfl) -- drawnCore
theorem FS.f0_8 {F : Int → Int → Int} (h : FS F) : F 0 8 = 20 := h (0, 8, 20) (List.mem_of_getElem? (i := 7) rfl) -- reader
theorem FS.f0_9 {F : Int → Int → Int} (h : FS F) : F 0 9 = 22 := h (0, 9, 22) (List.mem_of_getElem? (i := 8) rfl) -- tape
theorem FS.f0_10 {F : Int → Int → Int} (h : FS F) : F 0 10 = 30 := h (0, 10, 30) (List.mem_of_getElem? (i := 9) rfl) -- route
theorem FS.f0_11 {F : Int → Int → Int} (h : FS F) : F 0 11 = 41 := h (0, 11, 41) (List.mem_of_getElem? (i := 10) rfl) -- latest
theorem FS.f0_12 {F : Int → Int → Int} (h : FS F) : F 0 12 = 44 := h (0, 12, 44) (List.mem_of_getElem? (i := 11) rfl) -- running
theorem FS.f0_13 {F : Int → Int → Int} (h : FS F) : F 0 13 = 49 := h (0, 13, 49) (List.mem_of_getElem? (i := 12) rfl) -- refusals
theorem FS.f0_14 {F : Int → Int → Int} (h : FS F) : F 0 14 = 50 := h (0, 14, 50) (List.mem_of_getElem? (i := 13) rfl) -- bestRow
theorem FS.f0_15 {F : Int → Int → Int} (h : FS F) : F 0 15 = 51 := h (0, 15, 51) (List.mem_of_getElem? (i := 14) rfl) -- scratch
theorem FS.f1_0 {F : Int → Int → Int} (h : FS F) : F 1 0 = 2 := h (1, 0, 2) (List.mem_of_getElem? (i := 15) rfl) -- core
theorem FS.f1_1 {F : Int → Int → Int} (h : FS F) : F 1 1 = 4 := h (1, 1, 4) (List.mem_of_getElem? (i := 16) rfl) -- terms
theorem FS.f1_2 {F : Int → Int → Int} (h : FS F) : F 1 2 = 5 := h (1, 2, 5) (List.mem_of_getElem? (i := 17) rfl) -- seenFacts
theorem FS.f1_3 {F : Int → Int → Int} (h : FS F) : F 1 3 = 6 := h (1, 3, 6) (List.mem_of_getElem? (i := 18) rfl) -- seenNumbers
theorem FS.f1_5 {F : Int → Int → Int} (h : FS F) : F 1 5 = 7 := h (1, 5, 7) (List.mem_of_getElem? (i := 19) rfl) -- laws
theorem FS.f2_0 {F : Int → Int → Int} (h : FS F) : F 2 0 = 3 := h (2, 0, 3) (List.mem_of_getElem? (i := 20) rfl) -- cells
theorem FS.f10_0 {F : Int → Int → Int} (h : FS F) : F 10 0 = 11 := h (10, 0, 11) (List.mem_of_getElem? (i := 21) rfl) -- kinds
theorem FS.f10_1 {F : Int → Int → Int} (h : FS F) : F 10 1 = 12 := h (10, 1, 12) (List.mem_of_getElem? (i := 22) rfl) -- cells
theorem FS.f13_0 {F : Int → Int → Int} (h : FS F) : F 13 0 = 14 := h (13, 0, 14) (List.mem_of_getElem? (i := 23) rfl) -- kinds
theorem FS.f13_1 {F : Int → Int → Int} (h : FS F) : F 13 1 = 15 := h (13, 1, 15) (List.mem_of_getElem? (i := 24) rfl) -- cells
theorem FS.f16_0 {F : Int → Int → Int} (h : FS F) : F 16 0 = 17 := h (16, 0, 17) (List.mem_of_getElem? (i := 25) rfl) -- cells
theorem FS.f18_0 {F : Int → Int → Int} (h : FS F) : F 18 0 = 19 := h (18, 0, 19) (List.mem_of_getElem? (i := 26) rfl) -- cells
theorem FS.f20_0 {F : Int → Int → Int} (h : FS F) : F 20 0 = 21 := h (20, 0, 21) (List.mem_of_getElem? (i := 27) rfl) -- tokens
theorem FS.f20_1 {F : Int → Int → Int} (h : FS F) : F 20 1 = 27 := h (20, 1, 27) (List.mem_of_getElem? (i := 28) rfl) -- text
theorem FS.f21_0 {F : Int → Int → Int} (h : FS F) : F 21 0 = 22 := h (21, 0, 22) (List.mem_of_getElem? (i := 29) rfl) -- tape
theorem FS.f21_1 {F : Int → Int → Int} (h : FS F) : F 21 1 = 24 := h (21, 1, 24) (List.mem_of_getElem? (i := 30) rfl) -- kinds
theorem FS.f21_2 {F : Int → Int → Int} (h : FS F) : F 21 2 = 25 := h (21, 2, 25) (List.mem_of_getElem? (i := 31) rfl) -- places
theorem FS.f21_3 {F : Int → Int → Int} (h : FS F) : F 21 3 = 26 := h (21, 3, 26) (List.mem_of_getElem? (i := 32) rfl) -- numbers
theorem FS.f22_0 {F : Int → Int → Int} (h : FS F) : F 22 0 = 23 := h (22, 0, 23) (List.mem_of_getElem? (i := 33) rfl) -- bytes
theorem FS.f27_0 {F : Int → Int → Int} (h : FS F) : F 27 0 = 28 := h (27, 0, 28) (List.mem_of_getElem? (i := 34) rfl) -- rows
theorem FS.f27_1 {F : Int → Int → Int} (h : FS F) : F 27 1 = 29 := h (27, 1, 29) (List.mem_of_getElem? (i := 35) rfl) -- code
theorem FS.f30_0 {F : Int → Int → Int} (h : FS F) : F 30 0 = 31 := h (30, 0, 31) (List.mem_of_getElem? (i := 36) rfl) -- machine
theorem FS.f30_1 {F : Int → Int → Int} (h : FS F) : F 30 1 = 33 := h (30, 1, 33) (List.mem_of_getElem? (i := 37) rfl) -- words
theorem FS.f30_7 {F : Int → Int → Int} (h : FS F) : F 30 7 = 36 := h (30, 7, 36) (List.mem_of_getElem? (i := 38) rfl) -- stamps
theorem FS.f30_8 {F : Int → Int → Int} (h : FS F) : F 30 8 = 37 := h (30, 8, 37) (List.mem_of_getElem? (i := 39) rfl) -- fields
theorem FS.f30_9 {F : Int → Int → Int} (h : FS F) : F 30 9 = 38 := h (30, 9, 38) (List.mem_of_getElem? (i := 40) rfl) -- tickets
theorem FS.f30_10 {F : Int → Int → Int} (h : FS F) : F 30 10 = 39 := h (30, 10, 39) (List.mem_of_getElem? (i := 41) rfl) -- resultStamps
theorem FS.f30_11 {F : Int → Int → Int} (h : FS F) : F 30 11 = 40 := h (30, 11, 40) (List.mem_of_getElem? (i := 42) rfl) -- shutRelations
theorem FS.f31_0 {F : Int → Int → Int} (h : FS F) : F 31 0 = 32 := h (31, 0, 32) (List.mem_of_getElem? (i := 43) rfl) -- stack
theorem FS.f34_0 {F : Int → Int → Int} (h : FS F) : F 34 0 = 35 := h (34, 0, 35) (List.mem_of_getElem? (i := 44) rfl) -- cells
theorem FS.f41_0 {F : Int → Int → Int} (h : FS F) : F 41 0 = 42 := h (41, 0, 42) (List.mem_of_getElem? (i := 45) rfl) -- resultStamps
theorem FS.f41_2 {F : Int → Int → Int} (h : FS F) : F 41 2 = 43 := h (41, 2, 43) (List.mem_of_getElem? (i := 46) rfl) -- shutRelations
theorem FS.f44_0 {F : Int → Int → Int} (h : FS F) : F 44 0 = 45 := h (44, 0, 45) (List.mem_of_getElem? (i := 47) rfl) -- machine
theorem FS.f44_1 {F : Int → Int → Int} (h : FS F) : F 44 1 = 47 := h (44, 1, 47) (List.mem_of_getElem? (i := 48) rfl) -- words
theorem FS.f44_2 {F : Int → Int → Int} (h : FS F) : F 44 2 = 48 := h (44, 2, 48) (List.mem_of_getElem? (i := 49) rfl) -- numbers
theorem FS.f45_0 {F : Int → Int → Int} (h : FS F) : F 45 0 = 46 := h (45, 0, 46) (List.mem_of_getElem? (i := 50) rfl) -- stack
theorem FS.f52_0 {F : Int → Int → Int} (h : FS F) : F 52 0 = 53 := h (52, 0, 53) (List.mem_of_getElem? (i := 51) rfl) -- core
theorem FS.f52_1 {F : Int → Int → Int} (h : FS F) : F 52 1 = 55 := h (52, 1, 55) (List.mem_of_getElem? (i := 52) rfl) -- terms
theorem FS.f52_2 {F : Int → Int → Int} (h : FS F) : F 52 2 = 56 := h (52, 2, 56) (List.mem_of_getElem? (i := 53) rfl) -- seenFacts
theorem FS.f52_3 {F : Int → Int → Int} (h : FS F) : F 52 3 = 57 := h (52, 3, 57) (List.mem_of_getElem? (i := 54) rfl) -- seenNumbers
theorem FS.f52_5 {F : Int → Int → Int} (h : FS F) : F 52 5 = 58 := h (52, 5, 58) (List.mem_of_getElem? (i := 55) rfl) -- laws
theorem FS.f53_0 {F : Int → Int → Int} (h : FS F) : F 53 0 = 54 := h (53, 0, 54) (List.mem_of_getElem? (i := 56) rfl) -- cells
theorem FS.f59_0 {F : Int → Int → Int} (h : FS F) : F 59 0 = 60 := h (59, 0, 60) (List.mem_of_getElem? (i := 57) rfl) -- core
theorem FS.f59_1 {F : Int → Int → Int} (h : FS F) : F 59 1 = 62 := h (59, 1, 62) (List.mem_of_getElem? (i := 58) rfl) -- terms
theorem FS.f59_2 {F : Int → Int → Int} (h : FS F) : F 59 2 = 63 := h (59, 2, 63) (List.mem_of_getElem? (i := 59) rfl) -- seenFacts
theorem FS.f59_3 {F : Int → Int → Int} (h : FS F) : F 59 3 = 64 := h (59, 3, 64) (List.mem_of_getElem? (i := 60) rfl) -- seenNumbers
theorem FS.f59_5 {F : Int → Int → Int} (h : FS F) : F 59 5 = 65 := h (59, 5, 65) (List.mem_of_getElem? (i := 61) rfl) -- laws
theorem FS.f60_0 {F : Int → Int → Int} (h : FS F) : F 60 0 = 61 := h (60, 0, 61) (List.mem_of_getElem? (i := 62) rfl) -- cells
theorem FS.f66_2 {F : Int → Int → Int} (h : FS F) : F 66 2 = 67 := h (66, 2, 67) (List.mem_of_getElem? (i := 63) rfl) -- refusals
theorem FS.f66_3 {F : Int → Int → Int} (h : FS F) : F 66 3 = 68 := h (66, 3, 68) (List.mem_of_getElem? (i := 64) rfl) -- row
theorem FS.f66_4 {F : Int → Int → Int} (h : FS F) : F 66 4 = 69 := h (66, 4, 69) (List.mem_of_getElem? (i := 65) rfl) -- images
theorem FS.f66_5 {F : Int → Int → Int} (h : FS F) : F 66 5 = 70 := h (66, 5, 70) (List.mem_of_getElem? (i := 66) rfl) -- isKept
theorem FS.f66_6 {F : Int → Int → Int} (h : FS F) : F 66 6 = 71 := h (66, 6, 71) (List.mem_of_getElem? (i := 67) rfl) -- undos
theorem FS.f66_7 {F : Int → Int → Int} (h : FS F) : F 66 7 = 72 := h (66, 7, 72) (List.mem_of_getElem? (i := 68) rfl) -- sorts
theorem FS.f66_9 {F : Int → Int → Int} (h : FS F) : F 66 9 = 73 := h (66, 9, 73) (List.mem_of_getElem? (i := 69) rfl) -- undosBefore
theorem FS.f66_10 {F : Int → Int → Int} (h : FS F) : F 66 10 = 74 := h (66, 10, 74) (List.mem_of_getElem? (i := 70) rfl) -- sortsBefore
theorem FS.f66_12 {F : Int → Int → Int} (h : FS F) : F 66 12 = 75 := h (66, 12, 75) (List.mem_of_getElem? (i := 71) rfl) -- tape
theorem FS.f66_22 {F : Int → Int → Int} (h : FS F) : F 66 22 = 76 := h (66, 22, 76) (List.mem_of_getElem? (i := 72) rfl) -- nClause
theorem FS.f66_24 {F : Int → Int → Int} (h : FS F) : F 66 24 = 77 := h (66, 24, 77) (List.mem_of_getElem? (i := 73) rfl) -- nOp
theorem FS.f66_25 {F : Int → Int → Int} (h : FS F) : F 66 25 = 78 := h (66, 25, 78) (List.mem_of_getElem? (i := 74) rfl) -- nArg
theorem FS.f66_27 {F : Int → Int → Int} (h : FS F) : F 66 27 = 79 := h (66, 27, 79) (List.mem_of_getElem? (i := 75) rfl) -- pile
theorem FS.f66_28 {F : Int → Int → Int} (h : FS F) : F 66 28 = 80 := h (66, 28, 80) (List.mem_of_getElem? (i := 76) rfl) -- pileAt
theorem FS.f66_31 {F : Int → Int → Int} (h : FS F) : F 66 31 = 81 := h (66, 31, 81) (List.mem_of_getElem? (i := 77) rfl) -- words
theorem FS.f66_32 {F : Int → Int → Int} (h : FS F) : F 66 32 = 82 := h (66, 32, 82) (List.mem_of_getElem? (i := 78) rfl) -- orderWords
theorem FS.f66_33 {F : Int → Int → Int} (h : FS F) : F 66 33 = 83 := h (66, 33, 83) (List.mem_of_getElem? (i := 79) rfl) -- heads
theorem FS.f66_35 {F : Int → Int → Int} (h : FS F) : F 66 35 = 84 := h (66, 35, 84) (List.mem_of_getElem? (i := 80) rfl) -- set
theorem FS.f66_36 {F : Int → Int → Int} (h : FS F) : F 66 36 = 85 := h (66, 36, 85) (List.mem_of_getElem? (i := 81) rfl) -- now
theorem FS.f66_37 {F : Int → Int → Int} (h : FS F) : F 66 37 = 86 := h (66, 37, 86) (List.mem_of_getElem? (i := 82) rfl) -- rest
theorem FS.f66_41 {F : Int → Int → Int} (h : FS F) : F 66 41 = 87 := h (66, 41, 87) (List.mem_of_getElem? (i := 83) rfl) -- part
theorem FS.f66_42 {F : Int → Int → Int} (h : FS F) : F 66 42 = 88 := h (66, 42, 88) (List.mem_of_getElem? (i := 84) rfl) -- marks
theorem FS.f66_43 {F : Int → Int → Int} (h : FS F) : F 66 43 = 89 := h (66, 43, 89) (List.mem_of_getElem? (i := 85) rfl) -- openedBy
theorem FS.f66_44 {F : Int → Int → Int} (h : FS F) : F 66 44 = 90 := h (66, 44, 90) (List.mem_of_getElem? (i := 86) rfl) -- gone
theorem FS.f66_45 {F : Int → Int → Int} (h : FS F) : F 66 45 = 91 := h (66, 45, 91) (List.mem_of_getElem? (i := 87) rfl) -- passed
theorem FS.f66_46 {F : Int → Int → Int} (h : FS F) : F 66 46 = 92 := h (66, 46, 92) (List.mem_of_getElem? (i := 88) rfl) -- tickets
theorem FS.f66_48 {F : Int → Int → Int} (h : FS F) : F 66 48 = 93 := h (66, 48, 93) (List.mem_of_getElem? (i := 89) rfl) -- newFields
theorem FS.f66_54 {F : Int → Int → Int} (h : FS F) : F 66 54 = 94 := h (66, 54, 94) (List.mem_of_getElem? (i := 90) rfl) -- results
theorem FS.f66_55 {F : Int → Int → Int} (h : FS F) : F 66 55 = 95 := h (66, 55, 95) (List.mem_of_getElem? (i := 91) rfl) -- shutOnes
theorem FS.f66_57 {F : Int → Int → Int} (h : FS F) : F 66 57 = 96 := h (66, 57, 96) (List.mem_of_getElem? (i := 92) rfl) -- order
theorem FS.f66_58 {F : Int → Int → Int} (h : FS F) : F 66 58 = 97 := h (66, 58, 97) (List.mem_of_getElem? (i := 93) rfl) -- told
theorem FS.f66_60 {F : Int → Int → Int} (h : FS F) : F 66 60 = 98 := h (66, 60, 98) (List.mem_of_getElem? (i := 94) rfl) -- toldShut
theorem FS.f66_63 {F : Int → Int → Int} (h : FS F) : F 66 63 = 99 := h (66, 63, 99) (List.mem_of_getElem? (i := 95) rfl) -- bestOrder
theorem FS.f66_64 {F : Int → Int → Int} (h : FS F) : F 66 64 = 100 := h (66, 64, 100) (List.mem_of_getElem? (i := 96) rfl) -- alike
theorem FS.f66_65 {F : Int → Int → Int} (h : FS F) : F 66 65 = 101 := h (66, 65, 101) (List.mem_of_getElem? (i := 97) rfl) -- parts
theorem FS.f66_66 {F : Int → Int → Int} (h : FS F) : F 66 66 = 102 := h (66, 66, 102) (List.mem_of_getElem? (i := 98) rfl) -- acts
theorem FS.f66_67 {F : Int → Int → Int} (h : FS F) : F 66 67 = 103 := h (66, 67, 103) (List.mem_of_getElem? (i := 99) rfl) -- nOrder
theorem FS.f66_73 {F : Int → Int → Int} (h : FS F) : F 66 73 = 104 := h (66, 73, 104) (List.mem_of_getElem? (i := 100) rfl) -- drawn
theorem FS.up {F : Int → Int → Int} {a k v : Int} (h : FS F) (hn : fTab.all (fun t => !(decide (t.1 = a) && decide (t.2.1 = k))) = true) : FS (pUp F a k v) := by
  intro t ht
  have := List.all_eq_true.mp hn t ht
  unfold pUp
  rw [if_neg (fun q => by simp [q.1, q.2] at this)]
  exact h t ht
theorem FS.row {F : Int → Int → Int} {a : Int} {g : Int → Int} (h : FS F) (ha : 105 ≤ a) : FS (pRow F a g) := by
  intro t ht
  have h1 : t.1 < 105 := by
    have : fTab.all (fun t => decide (t.1 < 105)) = true := by decide
    simpa using List.all_eq_true.mp this t ht
  unfold pRow
  rw [if_neg (by omega)]
  exact h t ht
theorem KS.push {K : Int → Nat × Nat} {n : Nat} {κ : Nat × Nat} (h : KS K) (hn : 105 ≤ n) : KS (pKu K n κ) := by
  intro a ha
  unfold pKu
  rw [if_neg (by omega)]
  exact h a ha
