-- ===== the heap behind the constructors: cells 32 .. 140 =====
def zTYL : List (Nat × Nat) := [(1, 10), (1, 3), (1, 2), (2, 7), (2, 7), (2, 7), (2, 7), (2, 28), (2, 5), (1, 9), (2, 100), (1, 1), (3, 10), (2, 10), (2, 10), (2, 100), (2, 16), (1, 5), (2, 7), (2, 7), (1, 5), (2, 8), (2, 8), (1, 3), (1, 2), (2, 7), (2, 7), (2, 7), (2, 7), (2, 28), (2, 5), (1, 9), (2, 100), (1, 1), (3, 10), (2, 10), (2, 10), (2, 100), (2, 16), (1, 5), (2, 7), (2, 7), (1, 5), (2, 8), (2, 8), (1, 7), (1, 1), (3, 10), (2, 10), (2, 10), (2, 100), (2, 16), (2, 0), (1, 6), (2, 7), (2, 210), (2, 210), (2, 210), (2, 6), (2, 10), (2, 10), (2, 80), (2, 70), (2, 7), (2, 7), (2, 7), (1, 6), (2, 7), (2, 210), (2, 210), (2, 210), (2, 6), (2, 10), (2, 10), (2, 80), (2, 70), (2, 7), (2, 7), (2, 7), (1, 8), (2, 7), (2, 7), (1, 4), (2, 7), (2, 7), (2, 7), (1, 0), (2, 20), (2, 5), (1, 11), (2, 914), (2, 914), (2, 6), (3, 64), (2, 7), (2, 700), (2, 700), (2, 210), (2, 210), (2, 210), (2, 7), (2, 7), (2, 7), (2, 7), (2, 7), (2, 7), (2, 7), (2, 5), (2, 20)]
def zRFL : List (List Nat) := [[33, 55, 0, 77, 85, 98, 111, 114, 118, 120], [34, 40, 0, 0, 41, 43, 0, 49, 52], [0, 35, 36, 37, 38, 39], [], [], [], [], [], [], [0, 42], [], [0, 0, 0, 0, 44, 45, 46, 47, 48], [], [], [], [], [], [0, 50, 51], [], [], [0, 53, 54], [], [], [56, 62, 0, 0, 63, 65, 0, 71, 74], [0, 57, 58, 59, 60, 61], [], [], [], [], [], [], [0, 64], [], [0, 0, 0, 0, 66, 67, 68, 69, 70], [], [], [], [], [], [0, 72, 73], [], [], [0, 75, 76], [], [], [78, 0, 0, 84], [0, 0, 0, 0, 79, 80, 81, 82, 83], [], [], [], [], [], [], [0, 86, 87, 88, 89, 90, 91, 92, 93, 94, 95, 96, 97, 0, 0, 0, 0], [], [], [], [], [], [], [], [], [], [], [], [], [0, 99, 100, 101, 102, 103, 104, 105, 106, 107, 108, 109, 110, 0, 0, 0, 0], [], [], [], [], [], [], [], [], [], [], [], [], [0, 112, 113, 0], [], [], [115, 116, 117, 0], [], [], [], [0, 119, 0, 0, 0], [], [], [0, 122, 123, 0, 0, 0, 0, 0, 0, 124, 125, 0, 0, 126, 0, 0, 0, 127, 128, 129, 130, 131, 0, 0, 0, 132, 133, 134, 0, 0, 0, 0, 135, 136, 0, 0, 0, 0, 0, 137, 138, 139, 140, 0, 0, 0, 0], [], [], [], [], [], [], [], [], [], [], [], [], [], [], [], [], [], [], []]
def zTY (c : Nat) : Nat × Nat := if c < 32 then (0, 0) else (zTYL[c - 32]?).getD (0, 0)
/-- the references; the reader's row of signs is z -/
def zRF (z : Nat) (o k : Nat) : Nat := if o = 77 then (if k = 3 then z else if k = 0 then 78 else 0) else if o < 32 then 0 else ((zRFL[o - 32]?).getD [])[k]?.getD 0
def zH (z : Nat) (m : XM) : XH := (109, 6738, zTY, zRF z, m)
def qz (z : Nat) (Q : Option XV → XM → Prop) : Option XV → XH → Prop := fun r H' => ∃ m', H' = zH z m' ∧ Q r m'
def qi (P : Int → XM → Prop) : Option XV → XM → Prop := fun r m' => ∃ x, r = some (vI x) ∧ P x m'
def ql (P : Int → XM → Prop) : Option XV → XM → Prop := fun r m' => ∃ x, r = some (vL x) ∧ P x m'
def qv (P : XM → Prop) : Option XV → XM → Prop := fun r m' => r = none ∧ P m' 
theorem ty32 : zTY 32 = (1, 10) := by decide
theorem ty33 : zTY 33 = (1, 3) := by decide
theorem ty34 : zTY 34 = (1, 2) := by decide
theorem ty35 : zTY 35 = (2, 7) := by decide
theorem ty36 : zTY 36 = (2, 7) := by decide
theorem ty37 : zTY 37 = (2, 7) := by decide
theorem ty38 : zTY 38 = (2, 7) := by decide
theorem ty39 : zTY 39 = (2, 28) := by decide
theorem ty40 : zTY 40 = (2, 5) := by decide
theorem ty41 : zTY 41 = (1, 9) := by decide
theorem ty42 : zTY 42 = (2, 100) := by decide
theorem ty43 : zTY 43 = (1, 1) := by decide
theorem ty44 : zTY 44 = (3, 10) := by decide
theorem ty45 : zTY 45 = (2, 10) := by decide
theorem ty46 : zTY 46 = (2, 10) := by decide
theorem ty47 : zTY 47 = (2, 100) := by decide
theorem ty48 : zTY 48 = (2, 16) := by decide
theorem ty49 : zTY 49 = (1, 5) := by decide
theorem ty50 : zTY 50 = (2, 7) := by decide
theorem ty51 : zTY 51 = (2, 7) := by decide
theorem ty52 : zTY 52 = (1, 5) := by decide
theorem ty53 : zTY 53 = (2, 8) := by decide
theorem ty54 : zTY 54 = (2, 8) := by decide
theorem ty55 : zTY 55 = (1, 3) := by decide
theorem ty56 : zTY 56 = (1, 2) := by decide
theorem ty57 : zTY 57 = (2, 7) := by decide
theorem ty58 : zTY 58 = (2, 7) := by decide
theorem ty59 : zTY 59 = (2, 7) := by decide
theorem ty60 : zTY 60 = (2, 7) := by decide
theorem ty61 : zTY 61 = (2, 28) := by decide
theorem ty62 : zTY 62 = (2, 5) := by decide
theorem ty63 : zTY 63 = (1, 9) := by decide
theorem ty64 : zTY 64 = (2, 100) := by decide
theorem ty65 : zTY 65 = (1, 1) := by decide
theorem ty66 : zTY 66 = (3, 10) := by decide
theorem ty67 : zTY 67 = (2, 10) := by decide
theorem ty68 : zTY 68 = (2, 10) := by decide
theorem ty69 : zTY 69 = (2, 100) := by decide
theorem ty70 : zTY 70 = (2, 16) := by decide
theorem ty71 : zTY 71 = (1, 5) := by decide
theorem ty72 : zTY 72 = (2, 7) := by decide
theorem ty73 : zTY 73 = (2, 7) := by decide
theorem ty74 : zTY 74 = (1, 5) := by decide
theorem ty75 : zTY 75 = (2, 8) := by decide
theorem ty76 : zTY 76 = (2, 8) := by decide
theorem ty77 : zTY 77 = (1, 7) := by decide
theorem ty78 : zTY 78 = (1, 1) := by decide
theorem ty79 : zTY 79 = (3, 10) := by decide
theorem ty80 : zTY 80 = (2, 10) := by decide
theorem ty81 : zTY 81 = (2, 10) := by decide
theorem ty82 : zTY 82 = (2, 100) := by decide
theorem ty83 : zTY 83 = (2, 16) := by decide
theorem ty84 : zTY 84 = (2, 0) := by decide
theorem ty85 : zTY 85 = (1, 6) := by decide
theorem ty86 : zTY 86 = (2, 7) := by decide
theorem ty87 : zTY 87 = (2, 210) := by decide
theorem ty88 : zTY 88 = (2, 210) := by decide
theorem ty89 : zTY 89 = (2, 210) := by decide
theorem ty90 : zTY 90 = (2, 6) := by decide
theorem ty91 : zTY 91 = (2, 10) := by decide
theorem ty92 : zTY 92 = (2, 10) := by decide
theorem ty93 : zTY 93 = (2, 80) := by decide
theorem ty94 : zTY 94 = (2, 70) := by decide
theorem ty95 : zTY 95 = (2, 7) := by decide
theorem ty96 : zTY 96 = (2, 7) := by decide
theorem ty97 : zTY 97 = (2, 7) := by decide
theorem ty98 : zTY 98 = (1, 6) := by decide
theorem ty99 : zTY 99 = (2, 7) := by decide
theorem ty100 : zTY 100 = (2, 210) := by decide
theorem ty101 : zTY 101 = (2, 210) := by decide
theorem ty102 : zTY 102 = (2, 210) := by decide
theorem ty103 : zTY 103 = (2, 6) := by decide
theorem ty104 : zTY 104 = (2, 10) := by decide
theorem ty105 : zTY 105 = (2, 10) := by decide
theorem ty106 : zTY 106 = (2, 80) := by decide
theorem ty107 : zTY 107 = (2, 70) := by decide
theorem ty108 : zTY 108 = (2, 7) := by decide
theorem ty109 : zTY 109 = (2, 7) := by decide
theorem ty110 : zTY 110 = (2, 7) := by decide
theorem ty111 : zTY 111 = (1, 8) := by decide
theorem ty112 : zTY 112 = (2, 7) := by decide
theorem ty113 : zTY 113 = (2, 7) := by decide
theorem ty114 : zTY 114 = (1, 4) := by decide
theorem ty115 : zTY 115 = (2, 7) := by decide
theorem ty116 : zTY 116 = (2, 7) := by decide
theorem ty117 : zTY 117 = (2, 7) := by decide
theorem ty118 : zTY 118 = (1, 0) := by decide
theorem ty119 : zTY 119 = (2, 20) := by decide
theorem ty120 : zTY 120 = (2, 5) := by decide
theorem ty121 : zTY 121 = (1, 11) := by decide
theorem ty122 : zTY 122 = (2, 914) := by decide
theorem ty123 : zTY 123 = (2, 914) := by decide
theorem ty124 : zTY 124 = (2, 6) := by decide
theorem ty125 : zTY 125 = (3, 64) := by decide
theorem ty126 : zTY 126 = (2, 7) := by decide
theorem ty127 : zTY 127 = (2, 700) := by decide
theorem ty128 : zTY 128 = (2, 700) := by decide
theorem ty129 : zTY 129 = (2, 210) := by decide
theorem ty130 : zTY 130 = (2, 210) := by decide
theorem ty131 : zTY 131 = (2, 210) := by decide
theorem ty132 : zTY 132 = (2, 7) := by decide
theorem ty133 : zTY 133 = (2, 7) := by decide
theorem ty134 : zTY 134 = (2, 7) := by decide
theorem ty135 : zTY 135 = (2, 7) := by decide
theorem ty136 : zTY 136 = (2, 7) := by decide
theorem ty137 : zTY 137 = (2, 7) := by decide
theorem ty138 : zTY 138 = (2, 7) := by decide
theorem ty139 : zTY 139 = (2, 5) := by decide
theorem ty140 : zTY 140 = (2, 20) := by decide
theorem rf32_0 {z : Nat} : zRF z 32 0 = 33 := rfl
theorem rf32_1 {z : Nat} : zRF z 32 1 = 55 := rfl
theorem rf32_3 {z : Nat} : zRF z 32 3 = 77 := rfl
theorem rf32_4 {z : Nat} : zRF z 32 4 = 85 := rfl
theorem rf32_5 {z : Nat} : zRF z 32 5 = 98 := rfl
theorem rf32_6 {z : Nat} : zRF z 32 6 = 111 := rfl
theorem rf32_7 {z : Nat} : zRF z 32 7 = 114 := rfl
theorem rf32_8 {z : Nat} : zRF z 32 8 = 118 := rfl
theorem rf32_9 {z : Nat} : zRF z 32 9 = 120 := rfl
theorem rf33_0 {z : Nat} : zRF z 33 0 = 34 := rfl
theorem rf33_1 {z : Nat} : zRF z 33 1 = 40 := rfl
theorem rf33_4 {z : Nat} : zRF z 33 4 = 41 := rfl
theorem rf33_5 {z : Nat} : zRF z 33 5 = 43 := rfl
theorem rf33_7 {z : Nat} : zRF z 33 7 = 49 := rfl
theorem rf33_8 {z : Nat} : zRF z 33 8 = 52 := rfl
theorem rf34_1 {z : Nat} : zRF z 34 1 = 35 := rfl
theorem rf34_2 {z : Nat} : zRF z 34 2 = 36 := rfl
theorem rf34_3 {z : Nat} : zRF z 34 3 = 37 := rfl
theorem rf34_4 {z : Nat} : zRF z 34 4 = 38 := rfl
theorem rf34_5 {z : Nat} : zRF z 34 5 = 39 := rfl
theorem rf41_1 {z : Nat} : zRF z 41 1 = 42 := rfl
theorem rf43_4 {z : Nat} : zRF z 43 4 = 44 := rfl
theorem rf43_5 {z : Nat} : zRF z 43 5 = 45 := rfl
theorem rf43_6 {z : Nat} : zRF z 43 6 = 46 := rfl
theorem rf43_7 {z : Nat} : zRF z 43 7 = 47 := rfl
theorem rf43_8 {z : Nat} : zRF z 43 8 = 48 := rfl
theorem rf49_1 {z : Nat} : zRF z 49 1 = 50 := rfl
theorem rf49_2 {z : Nat} : zRF z 49 2 = 51 := rfl
theorem rf52_1 {z : Nat} : zRF z 52 1 = 53 := rfl
theorem rf52_2 {z : Nat} : zRF z 52 2 = 54 := rfl
theorem rf55_0 {z : Nat} : zRF z 55 0 = 56 := rfl
theorem rf55_1 {z : Nat} : zRF z 55 1 = 62 := rfl
theorem rf55_4 {z : Nat} : zRF z 55 4 = 63 := rfl
theorem rf55_5 {z : Nat} : zRF z 55 5 = 65 := rfl
theorem rf55_7 {z : Nat} : zRF z 55 7 = 71 := rfl
theorem rf55_8 {z : Nat} : zRF z 55 8 = 74 := rfl
theorem rf56_1 {z : Nat} : zRF z 56 1 = 57 := rfl
theorem rf56_2 {z : Nat} : zRF z 56 2 = 58 := rfl
theorem rf56_3 {z : Nat} : zRF z 56 3 = 59 := rfl
theorem rf56_4 {z : Nat} : zRF z 56 4 = 60 := rfl
theorem rf56_5 {z : Nat} : zRF z 56 5 = 61 := rfl
theorem rf63_1 {z : Nat} : zRF z 63 1 = 64 := rfl
theorem rf65_4 {z : Nat} : zRF z 65 4 = 66 := rfl
theorem rf65_5 {z : Nat} : zRF z 65 5 = 67 := rfl
theorem rf65_6 {z : Nat} : zRF z 65 6 = 68 := rfl
theorem rf65_7 {z : Nat} : zRF z 65 7 = 69 := rfl
theorem rf65_8 {z : Nat} : zRF z 65 8 = 70 := rfl
theorem rf71_1 {z : Nat} : zRF z 71 1 = 72 := rfl
theorem rf71_2 {z : Nat} : zRF z 71 2 = 73 := rfl
theorem rf74_1 {z : Nat} : zRF z 74 1 = 75 := rfl
theorem rf74_2 {z : Nat} : zRF z 74 2 = 76 := rfl
theorem rf77_0 {z : Nat} : zRF z 77 0 = 78 := rfl
theorem rf77_3 {z : Nat} : zRF z 77 3 = z := rfl
theorem rf78_4 {z : Nat} : zRF z 78 4 = 79 := rfl
theorem rf78_5 {z : Nat} : zRF z 78 5 = 80 := rfl
theorem rf78_6 {z : Nat} : zRF z 78 6 = 81 := rfl
theorem rf78_7 {z : Nat} : zRF z 78 7 = 82 := rfl
theorem rf78_8 {z : Nat} : zRF z 78 8 = 83 := rfl
theorem rf85_1 {z : Nat} : zRF z 85 1 = 86 := rfl
theorem rf85_2 {z : Nat} : zRF z 85 2 = 87 := rfl
theorem rf85_3 {z : Nat} : zRF z 85 3 = 88 := rfl
theorem rf85_4 {z : Nat} : zRF z 85 4 = 89 := rfl
theorem rf85_5 {z : Nat} : zRF z 85 5 = 90 := rfl
theorem rf85_6 {z : Nat} : zRF z 85 6 = 91 := rfl
theorem rf85_7 {z : Nat} : zRF z 85 7 = 92 := rfl
theorem rf85_8 {z : Nat} : zRF z 85 8 = 93 := rfl
theorem rf85_9 {z : Nat} : zRF z 85 9 = 94 := rfl
theorem rf85_10 {z : Nat} : zRF z 85 10 = 95 := rfl
theorem rf85_11 {z : Nat} : zRF z 85 11 = 96 := rfl
theorem rf85_12 {z : Nat} : zRF z 85 12 = 97 := rfl
theorem rf98_1 {z : Nat} : zRF z 98 1 = 99 := rfl
theorem rf98_2 {z : Nat} : zRF z 98 2 = 100 := rfl
theorem rf98_3 {z : Nat} : zRF z 98 3 = 101 := rfl
theorem rf98_4 {z : Nat} : zRF z 98 4 = 102 := rfl
theorem rf98_5 {z : Nat} : zRF z 98 5 = 103 := rfl
theorem rf98_6 {z : Nat} : zRF z 98 6 = 104 := rfl
theorem rf98_7 {z : Nat} : zRF z 98 7 = 105 := rfl
theorem rf98_8 {z : Nat} : zRF z 98 8 = 106 := rfl
theorem rf98_9 {z : Nat} : zRF z 98 9 = 107 := rfl
theorem rf98_10 {z : Nat} : zRF z 98 10 = 108 := rfl
theorem rf98_11 {z : Nat} : zRF z 98 11 = 109 := rfl
theorem rf98_12 {z : Nat} : zRF z 98 12 = 110 := rfl
theorem rf111_1 {z : Nat} : zRF z 111 1 = 112 := rfl
theorem rf111_2 {z : Nat} : zRF z 111 2 = 113 := rfl
theorem rf114_0 {z : Nat} : zRF z 114 0 = 115 := rfl
theorem rf114_1 {z : Nat} : zRF z 114 1 = 116 := rfl
theorem rf114_2 {z : Nat} : zRF z 114 2 = 117 := rfl
theorem rf118_1 {z : Nat} : zRF z 118 1 = 119 := rfl
theorem rf121_1 {z : Nat} : zRF z 121 1 = 122 := rfl
theorem rf121_2 {z : Nat} : zRF z 121 2 = 123 := rfl
theorem rf121_9 {z : Nat} : zRF z 121 9 = 124 := rfl
theorem rf121_10 {z : Nat} : zRF z 121 10 = 125 := rfl
theorem rf121_13 {z : Nat} : zRF z 121 13 = 126 := rfl
theorem rf121_17 {z : Nat} : zRF z 121 17 = 127 := rfl
theorem rf121_18 {z : Nat} : zRF z 121 18 = 128 := rfl
theorem rf121_19 {z : Nat} : zRF z 121 19 = 129 := rfl
theorem rf121_20 {z : Nat} : zRF z 121 20 = 130 := rfl
theorem rf121_21 {z : Nat} : zRF z 121 21 = 131 := rfl
theorem rf121_25 {z : Nat} : zRF z 121 25 = 132 := rfl
theorem rf121_26 {z : Nat} : zRF z 121 26 = 133 := rfl
theorem rf121_27 {z : Nat} : zRF z 121 27 = 134 := rfl
theorem rf121_32 {z : Nat} : zRF z 121 32 = 135 := rfl
theorem rf121_33 {z : Nat} : zRF z 121 33 = 136 := rfl
theorem rf121_39 {z : Nat} : zRF z 121 39 = 137 := rfl
theorem rf121_40 {z : Nat} : zRF z 121 40 = 138 := rfl
theorem rf121_41 {z : Nat} : zRF z 121 41 = 139 := rfl
theorem rf121_42 {z : Nat} : zRF z 121 42 = 140 := rfl
theorem mx0 : zMaxAt 0 = 1 := by decide
theorem ow0 : zOwAt 0 = 0 := by decide
theorem mx1 : zMaxAt 1 = 5 := by decide
theorem ow1 : zOwAt 1 = 0 := by decide
theorem mx2 : zMaxAt 2 = 7 := by decide
theorem ow2 : zOwAt 2 = 0 := by decide
theorem mx3 : zMaxAt 3 = 5 := by decide
theorem ow3 : zOwAt 3 = 0 := by decide
theorem mx4 : zMaxAt 4 = 1 := by decide
theorem ow4 : zOwAt 4 = 1 := by decide
theorem mx5 : zMaxAt 5 = 1 := by decide
theorem ow5 : zOwAt 5 = 1 := by decide
theorem mx6 : zMaxAt 6 = 2 := by decide
theorem ow6 : zOwAt 6 = 1 := by decide
theorem mx7 : zMaxAt 7 = 2 := by decide
theorem ow7 : zOwAt 7 = 1 := by decide
theorem mx8 : zMaxAt 8 = 3 := by decide
theorem ow8 : zOwAt 8 = 1 := by decide
theorem mx9 : zMaxAt 9 = 5 := by decide
theorem ow9 : zOwAt 9 = 1 := by decide
theorem mx10 : zMaxAt 10 = 3 := by decide
theorem ow10 : zOwAt 10 = 1 := by decide
theorem mx11 : zMaxAt 11 = 1 := by decide
theorem ow11 : zOwAt 11 = 2 := by decide
theorem mx12 : zMaxAt 12 = 4 := by decide
theorem ow12 : zOwAt 12 = 2 := by decide
theorem mx13 : zMaxAt 13 = 2 := by decide
theorem ow13 : zOwAt 13 = 2 := by decide
theorem mx14 : zMaxAt 14 = 1 := by decide
theorem ow14 : zOwAt 14 = 3 := by decide
theorem mx15 : zMaxAt 15 = 2 := by decide
theorem ow15 : zOwAt 15 = 3 := by decide
theorem mx16 : zMaxAt 16 = 1 := by decide
theorem ow16 : zOwAt 16 = 4 := by decide
theorem mx17 : zMaxAt 17 = 5 := by decide
theorem ow17 : zOwAt 17 = 4 := by decide
theorem mx18 : zMaxAt 18 = 5 := by decide
theorem ow18 : zOwAt 18 = 4 := by decide
theorem mx19 : zMaxAt 19 = 7 := by decide
theorem ow19 : zOwAt 19 = 4 := by decide
theorem mx20 : zMaxAt 20 = 2 := by decide
theorem ow20 : zOwAt 20 = 5 := by decide
theorem mx21 : zMaxAt 21 = 3 := by decide
theorem ow21 : zOwAt 21 = 5 := by decide
theorem mx22 : zMaxAt 22 = 1 := by decide
theorem ow22 : zOwAt 22 = 5 := by decide
theorem mx23 : zMaxAt 23 = 3 := by decide
theorem ow23 : zOwAt 23 = 5 := by decide
theorem mx24 : zMaxAt 24 = 1 := by decide
theorem ow24 : zOwAt 24 = 6 := by decide
theorem mx25 : zMaxAt 25 = 7 := by decide
theorem ow25 : zOwAt 25 = 6 := by decide
theorem mx26 : zMaxAt 26 = 4 := by decide
theorem ow26 : zOwAt 26 = 6 := by decide
theorem mx27 : zMaxAt 27 = 4 := by decide
theorem ow27 : zOwAt 27 = 6 := by decide
theorem mx28 : zMaxAt 28 = 4 := by decide
theorem ow28 : zOwAt 28 = 6 := by decide
theorem mx29 : zMaxAt 29 = 5 := by decide
theorem ow29 : zOwAt 29 = 6 := by decide
theorem mx30 : zMaxAt 30 = 14 := by decide
theorem ow30 : zOwAt 30 = 6 := by decide
theorem mx31 : zMaxAt 31 = 3 := by decide
theorem ow31 : zOwAt 31 = 6 := by decide
theorem mx32 : zMaxAt 32 = 2 := by decide
theorem ow32 : zOwAt 32 = 6 := by decide
theorem mx33 : zMaxAt 33 = 4 := by decide
theorem ow33 : zOwAt 33 = 6 := by decide
theorem mx34 : zMaxAt 34 = 4 := by decide
theorem ow34 : zOwAt 34 = 6 := by decide
theorem mx35 : zMaxAt 35 = 4 := by decide
theorem ow35 : zOwAt 35 = 6 := by decide
theorem mx36 : zMaxAt 36 = 4 := by decide
theorem ow36 : zOwAt 36 = 6 := by decide
theorem mx37 : zMaxAt 37 = 3 := by decide
theorem ow37 : zOwAt 37 = 6 := by decide
theorem mx38 : zMaxAt 38 = 4 := by decide
theorem ow38 : zOwAt 38 = 6 := by decide
theorem mx39 : zMaxAt 39 = 9 := by decide
theorem ow39 : zOwAt 39 = 6 := by decide
theorem mx40 : zMaxAt 40 = 3 := by decide
theorem ow40 : zOwAt 40 = 6 := by decide
theorem mx41 : zMaxAt 41 = 4 := by decide
theorem ow41 : zOwAt 41 = 6 := by decide
theorem mx42 : zMaxAt 42 = 3 := by decide
theorem ow42 : zOwAt 42 = 6 := by decide
theorem mx43 : zMaxAt 43 = 1 := by decide
theorem ow43 : zOwAt 43 = 7 := by decide
theorem mx44 : zMaxAt 44 = 3 := by decide
theorem ow44 : zOwAt 44 = 7 := by decide
theorem mx45 : zMaxAt 45 = 3 := by decide
theorem ow45 : zOwAt 45 = 7 := by decide
theorem mx46 : zMaxAt 46 = 3 := by decide
theorem ow46 : zOwAt 46 = 7 := by decide
theorem mx47 : zMaxAt 47 = 5 := by decide
theorem ow47 : zOwAt 47 = 7 := by decide
theorem mx48 : zMaxAt 48 = 2 := by decide
theorem ow48 : zOwAt 48 = 7 := by decide
theorem mx49 : zMaxAt 49 = 2 := by decide
theorem ow49 : zOwAt 49 = 7 := by decide
theorem mx50 : zMaxAt 50 = 4 := by decide
theorem ow50 : zOwAt 50 = 7 := by decide
theorem mx51 : zMaxAt 51 = 5 := by decide
theorem ow51 : zOwAt 51 = 7 := by decide
theorem mx52 : zMaxAt 52 = 3 := by decide
theorem ow52 : zOwAt 52 = 7 := by decide
theorem mx53 : zMaxAt 53 = 2 := by decide
theorem ow53 : zOwAt 53 = 7 := by decide
theorem mx54 : zMaxAt 54 = 2 := by decide
theorem ow54 : zOwAt 54 = 7 := by decide
theorem mx55 : zMaxAt 55 = 3 := by decide
theorem ow55 : zOwAt 55 = 7 := by decide
theorem mx56 : zMaxAt 56 = 3 := by decide
theorem ow56 : zOwAt 56 = 7 := by decide
theorem mx57 : zMaxAt 57 = 1 := by decide
theorem ow57 : zOwAt 57 = 8 := by decide
theorem mx58 : zMaxAt 58 = 3 := by decide
theorem ow58 : zOwAt 58 = 8 := by decide
theorem mx59 : zMaxAt 59 = 8 := by decide
theorem ow59 : zOwAt 59 = 8 := by decide
theorem mx60 : zMaxAt 60 = 8 := by decide
theorem ow60 : zOwAt 60 = 8 := by decide
theorem mx61 : zMaxAt 61 = 1 := by decide
theorem ow61 : zOwAt 61 = 9 := by decide
theorem mx62 : zMaxAt 62 = 2 := by decide
theorem ow62 : zOwAt 62 = 9 := by decide
theorem mx63 : zMaxAt 63 = 1 := by decide
theorem ow63 : zOwAt 63 = 10 := by decide
theorem mx64 : zMaxAt 64 = 2 := by decide
theorem ow64 : zOwAt 64 = 10 := by decide
theorem mx65 : zMaxAt 65 = 2 := by decide
theorem ow65 : zOwAt 65 = 10 := by decide
theorem mx66 : zMaxAt 66 = 4 := by decide
theorem ow66 : zOwAt 66 = 10 := by decide
theorem mx67 : zMaxAt 67 = 3 := by decide
theorem ow67 : zOwAt 67 = 10 := by decide
theorem mx68 : zMaxAt 68 = 3 := by decide
theorem ow68 : zOwAt 68 = 10 := by decide
theorem mx69 : zMaxAt 69 = 3 := by decide
theorem ow69 : zOwAt 69 = 10 := by decide
theorem mx70 : zMaxAt 70 = 4 := by decide
theorem ow70 : zOwAt 70 = 10 := by decide
theorem mx71 : zMaxAt 71 = 2 := by decide
theorem ow71 : zOwAt 71 = 10 := by decide
theorem mx72 : zMaxAt 72 = 3 := by decide
theorem ow72 : zOwAt 72 = 10 := by decide
theorem mx73 : zMaxAt 73 = 2 := by decide
theorem ow73 : zOwAt 73 = 10 := by decide
theorem mx74 : zMaxAt 74 = 2 := by decide
theorem ow74 : zOwAt 74 = 10 := by decide
theorem mx75 : zMaxAt 75 = 3 := by decide
theorem ow75 : zOwAt 75 = 10 := by decide
theorem mx76 : zMaxAt 76 = 3 := by decide
theorem ow76 : zOwAt 76 = 10 := by decide
theorem mx77 : zMaxAt 77 = 3 := by decide
theorem ow77 : zOwAt 77 = 10 := by decide
theorem mx78 : zMaxAt 78 = 3 := by decide
theorem ow78 : zOwAt 78 = 10 := by decide
theorem mx79 : zMaxAt 79 = 4 := by decide
theorem ow79 : zOwAt 79 = 10 := by decide
theorem mx80 : zMaxAt 80 = 4 := by decide
theorem ow80 : zOwAt 80 = 10 := by decide
theorem mx81 : zMaxAt 81 = 3 := by decide
theorem ow81 : zOwAt 81 = 10 := by decide
theorem mx82 : zMaxAt 82 = 3 := by decide
theorem ow82 : zOwAt 82 = 10 := by decide
theorem mx83 : zMaxAt 83 = 3 := by decide
theorem ow83 : zOwAt 83 = 10 := by decide
theorem mx84 : zMaxAt 84 = 2 := by decide
theorem ow84 : zOwAt 84 = 10 := by decide
theorem mx85 : zMaxAt 85 = 8 := by decide
theorem ow85 : zOwAt 85 = 10 := by decide
theorem mx86 : zMaxAt 86 = 13 := by decide
theorem ow86 : zOwAt 86 = 10 := by decide
theorem mx87 : zMaxAt 87 = 6 := by decide
theorem ow87 : zOwAt 87 = 10 := by decide
theorem mx88 : zMaxAt 88 = 8 := by decide
theorem ow88 : zOwAt 88 = 10 := by decide
theorem mx89 : zMaxAt 89 = 3 := by decide
theorem ow89 : zOwAt 89 = 10 := by decide
theorem mx90 : zMaxAt 90 = 5 := by decide
theorem ow90 : zOwAt 90 = 10 := by decide
theorem mx91 : zMaxAt 91 = 5 := by decide
theorem ow91 : zOwAt 91 = 10 := by decide
theorem mx92 : zMaxAt 92 = 3 := by decide
theorem ow92 : zOwAt 92 = 10 := by decide
theorem mx93 : zMaxAt 93 = 4 := by decide
theorem ow93 : zOwAt 93 = 10 := by decide
theorem mx94 : zMaxAt 94 = 3 := by decide
theorem ow94 : zOwAt 94 = 10 := by decide
theorem mx95 : zMaxAt 95 = 3 := by decide
theorem ow95 : zOwAt 95 = 10 := by decide
theorem mx96 : zMaxAt 96 = 2 := by decide
theorem ow96 : zOwAt 96 = 10 := by decide
theorem mx97 : zMaxAt 97 = 4 := by decide
theorem ow97 : zOwAt 97 = 10 := by decide
theorem mx98 : zMaxAt 98 = 2 := by decide
theorem ow98 : zOwAt 98 = 10 := by decide
theorem mx99 : zMaxAt 99 = 5 := by decide
theorem ow99 : zOwAt 99 = 10 := by decide
theorem mx100 : zMaxAt 100 = 1 := by decide
theorem ow100 : zOwAt 100 = 10 := by decide
theorem mx101 : zMaxAt 101 = 1 := by decide
theorem ow101 : zOwAt 101 = 10 := by decide
theorem mx102 : zMaxAt 102 = 2 := by decide
theorem ow102 : zOwAt 102 = 10 := by decide
theorem mx103 : zMaxAt 103 = 2 := by decide
theorem ow103 : zOwAt 103 = 10 := by decide
theorem mx104 : zMaxAt 104 = 2 := by decide
theorem ow104 : zOwAt 104 = 10 := by decide
theorem mx105 : zMaxAt 105 = 1 := by decide
theorem ow105 : zOwAt 105 = 10 := by decide
theorem mx106 : zMaxAt 106 = 3 := by decide
theorem ow106 : zOwAt 106 = 10 := by decide
theorem mx107 : zMaxAt 107 = 4 := by decide
theorem ow107 : zOwAt 107 = 10 := by decide
theorem mx108 : zMaxAt 108 = 3 := by decide
theorem ow108 : zOwAt 108 = 10 := by decide
theorem mx109 : zMaxAt 109 = 2 := by decide
theorem ow109 : zOwAt 109 = 10 := by decide
theorem mx110 : zMaxAt 110 = 3 := by decide
theorem ow110 : zOwAt 110 = 10 := by decide
theorem mx111 : zMaxAt 111 = 3 := by decide
theorem ow111 : zOwAt 111 = 10 := by decide
theorem mx112 : zMaxAt 112 = 5 := by decide
theorem ow112 : zOwAt 112 = 10 := by decide
theorem mx113 : zMaxAt 113 = 4 := by decide
theorem ow113 : zOwAt 113 = 10 := by decide
theorem mx114 : zMaxAt 114 = 4 := by decide
theorem ow114 : zOwAt 114 = 10 := by decide
theorem mx115 : zMaxAt 115 = 2 := by decide
theorem ow115 : zOwAt 115 = 10 := by decide
theorem mx116 : zMaxAt 116 = 4 := by decide
theorem ow116 : zOwAt 116 = 10 := by decide
theorem mx117 : zMaxAt 117 = 12 := by decide
theorem ow117 : zOwAt 117 = 10 := by decide
theorem mx118 : zMaxAt 118 = 1 := by decide
theorem ow118 : zOwAt 118 = 11 := by decide
theorem mx119 : zMaxAt 119 = 3 := by decide
theorem ow119 : zOwAt 119 = 11 := by decide
theorem mx120 : zMaxAt 120 = 3 := by decide
theorem ow120 : zOwAt 120 = 11 := by decide
theorem mx121 : zMaxAt 121 = 2 := by decide
theorem ow121 : zOwAt 121 = 11 := by decide
theorem mx122 : zMaxAt 122 = 2 := by decide
theorem ow122 : zOwAt 122 = 11 := by decide
theorem mx123 : zMaxAt 123 = 2 := by decide
theorem ow123 : zOwAt 123 = 11 := by decide
theorem mx124 : zMaxAt 124 = 1 := by decide
theorem ow124 : zOwAt 124 = 11 := by decide
theorem mx125 : zMaxAt 125 = 2 := by decide
theorem ow125 : zOwAt 125 = 11 := by decide
theorem mx126 : zMaxAt 126 = 3 := by decide
theorem ow126 : zOwAt 126 = 11 := by decide
theorem mx127 : zMaxAt 127 = 3 := by decide
theorem ow127 : zOwAt 127 = 11 := by decide
theorem mx128 : zMaxAt 128 = 3 := by decide
theorem ow128 : zOwAt 128 = 11 := by decide
theorem mx129 : zMaxAt 129 = 2 := by decide
theorem ow129 : zOwAt 129 = 11 := by decide
theorem mx130 : zMaxAt 130 = 5 := by decide
theorem ow130 : zOwAt 130 = 11 := by decide
theorem mx131 : zMaxAt 131 = 1 := by decide
theorem ow131 : zOwAt 131 = 11 := by decide
theorem mx132 : zMaxAt 132 = 1 := by decide
theorem ow132 : zOwAt 132 = 11 := by decide
theorem mx133 : zMaxAt 133 = 4 := by decide
theorem ow133 : zOwAt 133 = 11 := by decide
theorem mx134 : zMaxAt 134 = 4 := by decide
theorem ow134 : zOwAt 134 = 11 := by decide
theorem mx135 : zMaxAt 135 = 1 := by decide
theorem ow135 : zOwAt 135 = 11 := by decide
theorem mx136 : zMaxAt 136 = 2 := by decide
theorem ow136 : zOwAt 136 = 11 := by decide
theorem mx137 : zMaxAt 137 = 3 := by decide
theorem ow137 : zOwAt 137 = 11 := by decide
theorem mx138 : zMaxAt 138 = 14 := by decide
theorem ow138 : zOwAt 138 = 11 := by decide
theorem mx139 : zMaxAt 139 = 6 := by decide
theorem ow139 : zOwAt 139 = 11 := by decide
theorem mx140 : zMaxAt 140 = 3 := by decide
theorem ow140 : zOwAt 140 = 11 := by decide
theorem mx141 : zMaxAt 141 = 4 := by decide
theorem ow141 : zOwAt 141 = 11 := by decide
theorem mx142 : zMaxAt 142 = 4 := by decide
theorem ow142 : zOwAt 142 = 11 := by decide
theorem mx143 : zMaxAt 143 = 5 := by decide
theorem ow143 : zOwAt 143 = 11 := by decide
theorem mx144 : zMaxAt 144 = 2 := by decide
theorem ow144 : zOwAt 144 = 11 := by decide
theorem mx145 : zMaxAt 145 = 4 := by decide
theorem ow145 : zOwAt 145 = 11 := by decide
theorem mx146 : zMaxAt 146 = 2 := by decide
theorem ow146 : zOwAt 146 = 11 := by decide
theorem mx147 : zMaxAt 147 = 3 := by decide
theorem ow147 : zOwAt 147 = 11 := by decide
theorem mx148 : zMaxAt 148 = 4 := by decide
theorem ow148 : zOwAt 148 = 11 := by decide
theorem mx149 : zMaxAt 149 = 2 := by decide
theorem ow149 : zOwAt 149 = 11 := by decide
theorem mx150 : zMaxAt 150 = 2 := by decide
theorem ow150 : zOwAt 150 = 11 := by decide
theorem mx151 : zMaxAt 151 = 11 := by decide
theorem ow151 : zOwAt 151 = 11 := by decide
theorem mx152 : zMaxAt 152 = 5 := by decide
theorem ow152 : zOwAt 152 = 11 := by decide
theorem mx153 : zMaxAt 153 = 2 := by decide
theorem ow153 : zOwAt 153 = 11 := by decide
theorem mx154 : zMaxAt 154 = 3 := by decide
theorem ow154 : zOwAt 154 = 11 := by decide
theorem mx155 : zMaxAt 155 = 2 := by decide
theorem ow155 : zOwAt 155 = 11 := by decide
theorem mx156 : zMaxAt 156 = 3 := by decide
theorem ow156 : zOwAt 156 = 11 := by decide
theorem mx157 : zMaxAt 157 = 4 := by decide
theorem ow157 : zOwAt 157 = 11 := by decide
theorem mx158 : zMaxAt 158 = 11 := by decide
theorem ow158 : zOwAt 158 = 11 := by decide
theorem mx159 : zMaxAt 159 = 3 := by decide
theorem ow159 : zOwAt 159 = 11 := by decide
theorem mx160 : zMaxAt 160 = 2 := by decide
theorem ow160 : zOwAt 160 = 11 := by decide
theorem mx161 : zMaxAt 161 = 4 := by decide
theorem ow161 : zOwAt 161 = 11 := by decide
theorem mx162 : zMaxAt 162 = 5 := by decide
theorem ow162 : zOwAt 162 = 11 := by decide
theorem mx163 : zMaxAt 163 = 7 := by decide
theorem ow163 : zOwAt 163 = 11 := by decide
theorem mx164 : zMaxAt 164 = 4 := by decide
theorem ow164 : zOwAt 164 = 11 := by decide
theorem mx165 : zMaxAt 165 = 3 := by decide
theorem ow165 : zOwAt 165 = 11 := by decide
theorem mx166 : zMaxAt 166 = 2 := by decide
theorem ow166 : zOwAt 166 = 11 := by decide
theorem mx167 : zMaxAt 167 = 4 := by decide
theorem ow167 : zOwAt 167 = 11 := by decide
theorem mx168 : zMaxAt 168 = 3 := by decide
theorem ow168 : zOwAt 168 = 11 := by decide
theorem mx169 : zMaxAt 169 = 3 := by decide
theorem ow169 : zOwAt 169 = 11 := by decide
theorem mx170 : zMaxAt 170 = 2 := by decide
theorem ow170 : zOwAt 170 = 11 := by decide
theorem mx171 : zMaxAt 171 = 4 := by decide
theorem ow171 : zOwAt 171 = 11 := by decide
theorem mx172 : zMaxAt 172 = 4 := by decide
theorem ow172 : zOwAt 172 = 11 := by decide
theorem mx173 : zMaxAt 173 = 4 := by decide
theorem ow173 : zOwAt 173 = 11 := by decide
theorem mx174 : zMaxAt 174 = 3 := by decide
theorem ow174 : zOwAt 174 = 11 := by decide
theorem mx175 : zMaxAt 175 = 2 := by decide
theorem ow175 : zOwAt 175 = 11 := by decide
theorem mx176 : zMaxAt 176 = 3 := by decide
theorem ow176 : zOwAt 176 = 11 := by decide
theorem mx177 : zMaxAt 177 = 4 := by decide
theorem ow177 : zOwAt 177 = 11 := by decide
theorem mx178 : zMaxAt 178 = 4 := by decide
theorem ow178 : zOwAt 178 = 11 := by decide
theorem mx179 : zMaxAt 179 = 3 := by decide
theorem ow179 : zOwAt 179 = 11 := by decide
theorem mx180 : zMaxAt 180 = 8 := by decide
theorem ow180 : zOwAt 180 = 11 := by decide
theorem mx181 : zMaxAt 181 = 14 := by decide
theorem ow181 : zOwAt 181 = 11 := by decide
theorem mx182 : zMaxAt 182 = 6 := by decide
theorem ow182 : zOwAt 182 = 11 := by decide
theorem mx183 : zMaxAt 183 = 4 := by decide
theorem ow183 : zOwAt 183 = 11 := by decide
theorem mx184 : zMaxAt 184 = 8 := by decide
theorem ow184 : zOwAt 184 = 11 := by decide
theorem mx185 : zMaxAt 185 = 2 := by decide
theorem ow185 : zOwAt 185 = 11 := by decide
theorem mx186 : zMaxAt 186 = 6 := by decide
theorem ow186 : zOwAt 186 = 11 := by decide
theorem mx187 : zMaxAt 187 = 5 := by decide
theorem ow187 : zOwAt 187 = 11 := by decide
theorem mx188 : zMaxAt 188 = 4 := by decide
theorem ow188 : zOwAt 188 = 11 := by decide
theorem mx189 : zMaxAt 189 = 3 := by decide
theorem ow189 : zOwAt 189 = 11 := by decide
theorem mx190 : zMaxAt 190 = 2 := by decide
theorem ow190 : zOwAt 190 = 11 := by decide
theorem mx191 : zMaxAt 191 = 4 := by decide
theorem ow191 : zOwAt 191 = 11 := by decide
theorem mx192 : zMaxAt 192 = 3 := by decide
theorem ow192 : zOwAt 192 = 11 := by decide
theorem mx193 : zMaxAt 193 = 3 := by decide
theorem ow193 : zOwAt 193 = 11 := by decide
theorem mx194 : zMaxAt 194 = 2 := by decide
theorem ow194 : zOwAt 194 = 11 := by decide
theorem mx195 : zMaxAt 195 = 2 := by decide
theorem ow195 : zOwAt 195 = 11 := by decide
theorem mx196 : zMaxAt 196 = 2 := by decide
theorem ow196 : zOwAt 196 = 11 := by decide
theorem mx197 : zMaxAt 197 = 2 := by decide
theorem ow197 : zOwAt 197 = 11 := by decide
theorem mx198 : zMaxAt 198 = 2 := by decide
theorem ow198 : zOwAt 198 = 11 := by decide
theorem mx199 : zMaxAt 199 = 2 := by decide
theorem ow199 : zOwAt 199 = 11 := by decide
theorem mx200 : zMaxAt 200 = 2 := by decide
theorem ow200 : zOwAt 200 = 11 := by decide
theorem mx201 : zMaxAt 201 = 2 := by decide
theorem ow201 : zOwAt 201 = 11 := by decide
theorem mx202 : zMaxAt 202 = 3 := by decide
theorem ow202 : zOwAt 202 = 11 := by decide
theorem mx203 : zMaxAt 203 = 4 := by decide
theorem ow203 : zOwAt 203 = 11 := by decide
theorem mx204 : zMaxAt 204 = 2 := by decide
theorem ow204 : zOwAt 204 = 11 := by decide
theorem mx205 : zMaxAt 205 = 3 := by decide
theorem ow205 : zOwAt 205 = 11 := by decide
theorem mx206 : zMaxAt 206 = 2 := by decide
theorem ow206 : zOwAt 206 = 11 := by decide
theorem mx207 : zMaxAt 207 = 2 := by decide
theorem ow207 : zOwAt 207 = 11 := by decide
theorem mx208 : zMaxAt 208 = 2 := by decide
theorem ow208 : zOwAt 208 = 11 := by decide
theorem mx209 : zMaxAt 209 = 1 := by decide
theorem ow209 : zOwAt 209 = 12 := by decide
theorem mx210 : zMaxAt 210 = 2 := by decide
theorem ow210 : zOwAt 210 = 12 := by decide
theorem mx211 : zMaxAt 211 = 2 := by decide
theorem ow211 : zOwAt 211 = 12 := by decide
theorem mx212 : zMaxAt 212 = 3 := by decide
theorem ow212 : zOwAt 212 = 12 := by decide
theorem mx213 : zMaxAt 213 = 1 := by decide
theorem ow213 : zOwAt 213 = 12 := by decide
theorem mx214 : zMaxAt 214 = 1 := by decide
theorem ow214 : zOwAt 214 = 12 := by decide
theorem mx215 : zMaxAt 215 = 2 := by decide
theorem ow215 : zOwAt 215 = 12 := by decide
theorem mx216 : zMaxAt 216 = 2 := by decide
theorem ow216 : zOwAt 216 = 13 := by decide
theorem mx217 : zMaxAt 217 = 1 := by decide
theorem ow217 : zOwAt 217 = 13 := by decide
theorem mx218 : zMaxAt 218 = 4 := by decide
theorem ow218 : zOwAt 218 = 13 := by decide
theorem mx219 : zMaxAt 219 = 6 := by decide
theorem ow219 : zOwAt 219 = 13 := by decide
theorem mx220 : zMaxAt 220 = 3 := by decide
theorem ow220 : zOwAt 220 = 14 := by decide
theorem mx221 : zMaxAt 221 = 4 := by decide
theorem ow221 : zOwAt 221 = 16 := by decide
theorem le_mx {y w : Nat} {as : List XV} (h : zMaxAt y = w) (hl : (flat as).length ≤ w) : (flat as).length ≤ zMaxAt y := by rw [h]; exact hl
section HR
variable {d M pc nx a b : Nat} {v x y i : Int} {ls st : List XV} {z : Nat} {m : XM} {Q : Option XV → XH → Prop}
theorem r_entry {H : XH} {as ls : List XV} {w : Nat} (hm : zMaxAt M = w) (hl : flat as ++ List.replicate (w - (flat as).length) (vR 0) = ls) (k : RZ d M 0 ls [] H Q) : RZ d M 0 (entryL M as) [] H Q := by
  unfold entryL; rw [hm, hl]; exact k
theorem recv_ok {o ow y : Nat} {as : List XV} (ht : zTY o = (1, ow)) (hw : zOwAt y = ow) (hlt : ow < 12) : recvOK (zH z m) (zOwAt y) (vR o :: as) = true := by
  show ((decide (zOwAt y < 12) && decide ((zH z m).2.2.1 o = (1, zOwAt y))) || _) = true
  rw [hw, decide_eq_true hlt, decide_eq_true (show (zH z m).2.2.1 o = (1, ow) from ht)]
  rfl
theorem recv_str {o y : Nat} {as : List XV} (hw : zOwAt y = 12) (h1 : 6 ≤ o) (h2 : o < 19) : recvOK (zH z m) (zOwAt y) (vR o :: as) = true := by
  show ((decide (zOwAt y < 12) && decide ((zH z m).2.2.1 o = (1, zOwAt y))) || (decide (zOwAt y = 12) && decide (6 ≤ o ∧ o < 19))) = true
  rw [hw, show decide ((12 : Nat) = 12) = true from rfl, decide_eq_true (show 6 ≤ o ∧ o < 19 from ⟨h1, h2⟩)]
  simp
theorem r_getI {o c k : Nat} {ki : Int} (h : zA M pc = (47, nx, c, k, 0, [])) (ht : zTY o = (1, c)) (hk : (k : Int) = ki) (kk : RZ d M nx ls (vI (m o ki) :: st) (zH z m) Q) : RZ d M pc ls (vR o :: st) (zH z m) Q :=
  RZ.step h (fun _ _ => by subst hk; show (if zTY o = (1, c) then _ else none) = _; rw [if_pos ht]; rfl) kk
theorem r_getL {o c k : Nat} {ki : Int} (h : zA M pc = (48, nx, c, k, 0, [])) (ht : zTY o = (1, c)) (hk : (k : Int) = ki) (kk : RZ d M nx ls (vL (m o ki) :: st) (zH z m) Q) : RZ d M pc ls (vR o :: st) (zH z m) Q :=
  RZ.step h (fun _ _ => by subst hk; show (if zTY o = (1, c) then _ else none) = _; rw [if_pos ht]; rfl) kk
theorem r_getR {o c k q : Nat} (h : zA M pc = (49, nx, c, k, 0, [])) (ht : zTY o = (1, c)) (hr : zRF z o k = q) (hq : q ≠ 0) (kk : RZ d M nx ls (vR q :: st) (zH z m) Q) : RZ d M pc ls (vR o :: st) (zH z m) Q :=
  RZ.step h (fun _ _ => by subst hr; show (if zTY o = (1, c) ∧ zRF z o k ≠ 0 then _ else none) = _; rw [if_pos ⟨ht, hq⟩]; rfl) kk
theorem r_putI {o c k : Nat} {ki w : Int} (h : zA M pc = (50, nx, c, k, w, [])) (ht : zTY o = (1, c)) (hk : (k : Int) = ki) (kk : RZ d M nx ls st (zH z (up2 m o ki x)) Q) : RZ d M pc ls (vI x :: vR o :: st) (zH z m) Q :=
  RZ.step h (fun _ _ => by subst hk; show (if zTY o = (1, c) then _ else none) = _; rw [if_pos ht]; rfl) kk
theorem r_putZ {o c k : Nat} {ki w : Int} (h : zA M pc = (51, nx, c, k, w, [])) (ht : zTY o = (1, c)) (hk : (k : Int) = ki) (hx : x = 0 ∨ x = 1) (kk : RZ d M nx ls st (zH z (up2 m o ki x)) Q) : RZ d M pc ls (vI x :: vR o :: st) (zH z m) Q :=
  RZ.step h (fun _ _ => by subst hk; show (if zTY o = (1, c) ∧ (x = 0 ∨ x = 1) then _ else none) = _; rw [if_pos ⟨ht, hx⟩]; rfl) kk
theorem r_putL {o c k : Nat} {ki w : Int} (h : zA M pc = (52, nx, c, k, w, [])) (ht : zTY o = (1, c)) (hk : (k : Int) = ki) (kk : RZ d M nx ls st (zH z (up2 m o ki x)) Q) : RZ d M pc ls (vL x :: vR o :: st) (zH z m) Q :=
  RZ.step h (fun _ _ => by subst hk; show (if zTY o = (1, c) then _ else none) = _; rw [if_pos ht]; rfl) kk
theorem r_iald {o n : Nat} (h : zA M pc = (56, nx, 0, 0, 0, [])) (ht : zTY o = (2, n)) (hi : 0 ≤ i ∧ i < (n : Int)) (kk : RZ d M nx ls (vI (m o i) :: st) (zH z m) Q) : RZ d M pc ls (vI i :: vR o :: st) (zH z m) Q :=
  RZ.step h (fun C k => by
    show (if (zTY o).1 = 2 ∧ 0 ≤ i ∧ i < ((zTY o).2 : Int) then _ else _) = _
    rw [if_pos (by rw [ht]; exact ⟨rfl, hi⟩)]; rfl) kk
theorem r_ialdT {o : Nat} (h : zA M pc = (56, nx, 0, 0, 0, [])) (ht : (o = 2 ∧ 0 ≤ i ∧ i < 7) ∨ (o = 4 ∧ 0 ≤ i ∧ i < 21)) (kk : RZ d M nx ls (vI (zTab o i) :: st) (zH z m) Q) : RZ d M pc ls (vI i :: vR o :: st) (zH z m) Q :=
  RZ.step h (fun C k => by
    have h0 : zTY o = (0, 0) := if_pos (by omega)
    show (if (zTY o).1 = 2 ∧ 0 ≤ i ∧ i < ((zTY o).2 : Int) then _ else _) = _
    rw [if_neg (by rw [h0]; exact fun q => absurd q.1 (by decide)), if_pos ht]) kk
theorem r_ialdS (h : zA M pc = (56, nx, 0, 0, 0, [])) (hi : 0 ≤ i ∧ i < m 1 (-1)) (kk : RZ d M nx ls (vI (m 1 i) :: st) (zH z m) Q) : RZ d M pc ls (vI i :: vR 1 :: st) (zH z m) Q :=
  RZ.step h (fun C k => by
    show (if (zTY 1).1 = 2 ∧ 0 ≤ i ∧ i < ((zTY 1).2 : Int) then k nx ls (vI (m 1 i) :: st) (zH z m) else if ((1 : Nat) = 2 ∧ 0 ≤ i ∧ i < 7) ∨ ((1 : Nat) = 4 ∧ 0 ≤ i ∧ i < 21) then k nx ls (vI (zTab 1 i) :: st) (zH z m) else if (1 : Nat) = 1 ∧ 0 ≤ i ∧ i < m 1 (-1) then k nx ls (vI (m 1 i) :: st) (zH z m) else none) = _
    rw [if_neg (fun q => absurd q.1 (by decide)), if_neg (by omega), if_pos ⟨rfl, hi⟩]) kk
theorem r_lald (h : zA M pc = (57, nx, 0, 0, 0, [])) (hi : 0 ≤ i ∧ i < 8) (kk : RZ d M nx ls (vL (zTab 3 i) :: st) (zH z m) Q) : RZ d M pc ls (vI i :: vR 3 :: st) (zH z m) Q :=
  RZ.step h (fun C k => by show (if _ then _ else none) = _; rw [if_pos ⟨rfl, hi⟩]) kk
theorem r_bald {o n : Nat} (h : zA M pc = (58, nx, 0, 0, 0, [])) (ht : zTY o = (3, n)) (hi : 0 ≤ i ∧ i < (n : Int)) (kk : RZ d M nx ls (vI (m o i) :: st) (zH z m) Q) : RZ d M pc ls (vI i :: vR o :: st) (zH z m) Q :=
  RZ.step h (fun C k => by
    show (if (zTY o).1 = 3 ∧ 0 ≤ i ∧ i < ((zTY o).2 : Int) then _ else _) = _
    rw [if_pos (by rw [ht]; exact ⟨rfl, hi⟩)]; rfl) kk
theorem r_baldT {o : Nat} (h : zA M pc = (58, nx, 0, 0, 0, [])) (ho : 19 ≤ o ∧ o < 32) (hi : 0 ≤ i ∧ i < (zLen o : Int)) (kk : RZ d M nx ls (vI (zTab o i) :: st) (zH z m) Q) : RZ d M pc ls (vI i :: vR o :: st) (zH z m) Q :=
  RZ.step h (fun C k => by
    have h0 : zTY o = (0, 0) := if_pos (by omega)
    show (if (zTY o).1 = 3 ∧ 0 ≤ i ∧ i < ((zTY o).2 : Int) then _ else _) = _
    rw [if_neg (by rw [h0]; exact fun q => absurd q.1 (by decide)), if_pos ⟨ho.1, ho.2, hi⟩]) kk
theorem r_iast {o n : Nat} (h : zA M pc = (59, nx, 0, 0, 0, [])) (ht : zTY o = (2, n)) (hi : 0 ≤ i ∧ i < (n : Int)) (kk : RZ d M nx ls st (zH z (up2 m o i x)) Q) : RZ d M pc ls (vI x :: vI i :: vR o :: st) (zH z m) Q :=
  RZ.step h (fun C k => by
    show (if (zTY o).1 = 2 ∧ 0 ≤ i ∧ i < ((zTY o).2 : Int) then _ else none) = _
    rw [if_pos (by rw [ht]; exact ⟨rfl, hi⟩)]; rfl) kk
theorem r_bast {o n : Nat} (h : zA M pc = (60, nx, 0, 0, 0, [])) (ht : zTY o = (3, n)) (hi : 0 ≤ i ∧ i < (n : Int)) (hx : x = 0 ∨ x = 1) (kk : RZ d M nx ls st (zH z (up2 m o i x)) Q) : RZ d M pc ls (vI x :: vI i :: vR o :: st) (zH z m) Q :=
  RZ.step h (fun C k => by
    show (if (zTY o).1 = 3 ∧ 0 ≤ i ∧ i < ((zTY o).2 : Int) ∧ (x = 0 ∨ x = 1) then _ else none) = _
    rw [if_pos (by rw [ht]; exact ⟨rfl, hi.1, hi.2, hx⟩)]; rfl) kk
theorem r_alen {o t n : Nat} {w : Int} (h : zA M pc = (61, nx, 0, 0, 0, [])) (ht : zTY o = (t, n)) (h2 : t = 2 ∨ t = 3) (hw : (n : Int) = w) (kk : RZ d M nx ls (vI w :: st) (zH z m) Q) : RZ d M pc ls (vR o :: st) (zH z m) Q :=
  RZ.step h (fun C k => by
    subst hw
    show (if (zTY o).1 = 2 ∨ (zTY o).1 = 3 then k nx ls (vI ((zTY o).2 : Int) :: st) (zH z m) else _) = _
    rw [ht, if_pos h2]) kk
theorem r_alenS (h : zA M pc = (61, nx, 0, 0, 0, [])) (kk : RZ d M nx ls (vI (m 1 (-1)) :: st) (zH z m) Q) : RZ d M pc ls (vR 1 :: st) (zH z m) Q :=
  RZ.step h (fun C k => by
    show (if (zTY 1).1 = 2 ∨ (zTY 1).1 = 3 then k nx ls (vI ((zTY 1).2 : Int) :: st) (zH z m) else if (1 : Nat) = 1 then k nx ls (vI (m 1 (-1)) :: st) (zH z m) else if 19 ≤ (1 : Nat) ∧ (1 : Nat) < 32 then k nx ls (vI (zLen 1 : Int) :: st) (zH z m) else none) = _
    rw [if_neg (by decide), if_pos rfl]) kk
theorem r_alenT {o : Nat} (h : zA M pc = (61, nx, 0, 0, 0, [])) (ho : 19 ≤ o ∧ o < 32) (kk : RZ d M nx ls (vI (zLen o : Int) :: st) (zH z m) Q) : RZ d M pc ls (vR o :: st) (zH z m) Q :=
  RZ.step h (fun C k => by
    have h0 : zTY o = (0, 0) := if_pos (by omega)
    show (if (zTY o).1 = 2 ∨ (zTY o).1 = 3 then _ else _) = _
    rw [if_neg (by rw [h0]; decide), if_neg (by omega), if_pos ho]) kk
theorem r_copy {ss dd t n1 n2 : Nat} {n dp sp : Int} (h : zA M pc = (67, nx, 0, 0, 0, [])) (hd : d ≠ 0) (h1 : zTY ss = (t, n1)) (h2 : zTY dd = (t, n2)) (ht : t = 2 ∨ t = 3) (hne : ss ≠ dd) (hb : 0 ≤ n ∧ 0 ≤ sp ∧ 0 ≤ dp ∧ sp + n ≤ (n1 : Int) ∧ dp + n ≤ (n2 : Int)) (kk : RZ d M nx ls [] (zH z (upc m ss sp dd dp n)) Q) : RZ d M pc ls [vI n, vI dp, vR dd, vI sp, vR ss] (zH z m) Q :=
  RZ.step h (fun C k => by
    show (if d ≠ 0 ∧ ([] : List XV) = [] ∧ ss ≠ dd ∧ ((zTY ss).1 = 2 ∨ (zTY ss).1 = 3) ∧ (zTY dd).1 = (zTY ss).1 ∧ 0 ≤ n ∧ 0 ≤ sp ∧ 0 ≤ dp ∧ sp + n ≤ ((zTY ss).2 : Int) ∧ dp + n ≤ ((zTY dd).2 : Int) then _ else none) = _
    rw [if_pos (by rw [h1, h2]; exact ⟨hd, rfl, hne, ht, rfl, hb⟩)]; rfl) kk
theorem r_retIq {P : Int → XM → Prop} (h : zA M pc = (68, 0, 0, 0, 0, [])) (k : P x m) : RZ d M pc ls [vI x] (zH z m) (qz z (qi P)) := r_retI h ⟨m, rfl, x, rfl, k⟩
theorem r_retZq {P : Int → XM → Prop} (h : zA M pc = (68, 0, 0, 1, 0, [])) (hx : x = 0 ∨ x = 1) (k : P x m) : RZ d M pc ls [vI x] (zH z m) (qz z (qi P)) := r_retZ h hx ⟨m, rfl, x, rfl, k⟩
theorem r_retCq {P : Int → XM → Prop} (h : zA M pc = (68, 0, 0, 2, 0, [])) (hx : 0 ≤ x ∧ x < 65536) (k : P x m) : RZ d M pc ls [vI x] (zH z m) (qz z (qi P)) := r_retC h hx ⟨m, rfl, x, rfl, k⟩
theorem r_retBq {P : Int → XM → Prop} (h : zA M pc = (68, 0, 0, 3, 0, [])) (hx : -128 ≤ x ∧ x < 128) (k : P x m) : RZ d M pc ls [vI x] (zH z m) (qz z (qi P)) := r_retB h hx ⟨m, rfl, x, rfl, k⟩
theorem r_retLq {P : Int → XM → Prop} (h : zA M pc = (69, nx, 0, 0, 0, [])) (k : P x m) : RZ d M pc ls [vL x] (zH z m) (qz z (ql P)) := r_retL h ⟨m, rfl, x, rfl, k⟩
theorem r_retVq {P : XM → Prop} (h : zA M pc = (70, nx, 0, 0, 0, [])) (k : P m) : RZ d M pc ls [] (zH z m) (qz z (qv P)) := r_retV h ⟨m, rfl, rfl, k⟩
theorem r_callI_1 {y : Nat} {b1 : XV} {P : Int → XM → Prop} (h : zA M pc = (65, nx, y, 1, v, [])) (hcat : catSum st ≤ 8) (hfl : (flat [b1]).length ≤ zMaxAt y) (hrv : v = 0 ∨ recvOK (zH z m) (zOwAt y) [b1] = true) (hc : RZ d y 0 (entryL y [b1]) [] (zH z m) (qz z (qi P))) (k : ∀ x m', P x m' → RZ (d + 1) M nx ls (vI x :: st) (zH z m') Q) : RZ (d + 1) M pc ls (b1 :: st) (zH z m) Q :=
  r_callH h (as := [b1]) (rest := st) rfl rfl hcat hfl hrv hc (fun r H' hq => by
    obtain ⟨m', rfl, x, rfl, hp⟩ := hq
    exact k x m' hp)
theorem r_callL_1 {y : Nat} {b1 : XV} {P : Int → XM → Prop} (h : zA M pc = (65, nx, y, 1, v, [])) (hcat : catSum st ≤ 8) (hfl : (flat [b1]).length ≤ zMaxAt y) (hrv : v = 0 ∨ recvOK (zH z m) (zOwAt y) [b1] = true) (hc : RZ d y 0 (entryL y [b1]) [] (zH z m) (qz z (ql P))) (k : ∀ x m', P x m' → RZ (d + 1) M nx ls (vL x :: st) (zH z m') Q) : RZ (d + 1) M pc ls (b1 :: st) (zH z m) Q :=
  r_callH h (as := [b1]) (rest := st) rfl rfl hcat hfl hrv hc (fun r H' hq => by
    obtain ⟨m', rfl, x, rfl, hp⟩ := hq
    exact k x m' hp)
theorem r_callV_1 {y : Nat} {b1 : XV} {P : XM → Prop} (h : zA M pc = (65, nx, y, 1, v, [])) (hcat : catSum st ≤ 8) (hfl : (flat [b1]).length ≤ zMaxAt y) (hrv : v = 0 ∨ recvOK (zH z m) (zOwAt y) [b1] = true) (hc : RZ d y 0 (entryL y [b1]) [] (zH z m) (qz z (qv P))) (k : ∀ m', P m' → RZ (d + 1) M nx ls st (zH z m') Q) : RZ (d + 1) M pc ls (b1 :: st) (zH z m) Q :=
  r_callH h (as := [b1]) (rest := st) rfl rfl hcat hfl hrv hc (fun r H' hq => by
    obtain ⟨m', rfl, rfl, hp⟩ := hq
    exact k m' hp)
theorem r_callI_2 {y : Nat} {b1 b2 : XV} {P : Int → XM → Prop} (h : zA M pc = (65, nx, y, 2, v, [])) (hcat : catSum st ≤ 8) (hfl : (flat [b1, b2]).length ≤ zMaxAt y) (hrv : v = 0 ∨ recvOK (zH z m) (zOwAt y) [b1, b2] = true) (hc : RZ d y 0 (entryL y [b1, b2]) [] (zH z m) (qz z (qi P))) (k : ∀ x m', P x m' → RZ (d + 1) M nx ls (vI x :: st) (zH z m') Q) : RZ (d + 1) M pc ls (b2 :: b1 :: st) (zH z m) Q :=
  r_callH h (as := [b1, b2]) (rest := st) rfl rfl hcat hfl hrv hc (fun r H' hq => by
    obtain ⟨m', rfl, x, rfl, hp⟩ := hq
    exact k x m' hp)
theorem r_callL_2 {y : Nat} {b1 b2 : XV} {P : Int → XM → Prop} (h : zA M pc = (65, nx, y, 2, v, [])) (hcat : catSum st ≤ 8) (hfl : (flat [b1, b2]).length ≤ zMaxAt y) (hrv : v = 0 ∨ recvOK (zH z m) (zOwAt y) [b1, b2] = true) (hc : RZ d y 0 (entryL y [b1, b2]) [] (zH z m) (qz z (ql P))) (k : ∀ x m', P x m' → RZ (d + 1) M nx ls (vL x :: st) (zH z m') Q) : RZ (d + 1) M pc ls (b2 :: b1 :: st) (zH z m) Q :=
  r_callH h (as := [b1, b2]) (rest := st) rfl rfl hcat hfl hrv hc (fun r H' hq => by
    obtain ⟨m', rfl, x, rfl, hp⟩ := hq
    exact k x m' hp)
theorem r_callV_2 {y : Nat} {b1 b2 : XV} {P : XM → Prop} (h : zA M pc = (65, nx, y, 2, v, [])) (hcat : catSum st ≤ 8) (hfl : (flat [b1, b2]).length ≤ zMaxAt y) (hrv : v = 0 ∨ recvOK (zH z m) (zOwAt y) [b1, b2] = true) (hc : RZ d y 0 (entryL y [b1, b2]) [] (zH z m) (qz z (qv P))) (k : ∀ m', P m' → RZ (d + 1) M nx ls st (zH z m') Q) : RZ (d + 1) M pc ls (b2 :: b1 :: st) (zH z m) Q :=
  r_callH h (as := [b1, b2]) (rest := st) rfl rfl hcat hfl hrv hc (fun r H' hq => by
    obtain ⟨m', rfl, rfl, hp⟩ := hq
    exact k m' hp)
theorem r_callI_3 {y : Nat} {b1 b2 b3 : XV} {P : Int → XM → Prop} (h : zA M pc = (65, nx, y, 3, v, [])) (hcat : catSum st ≤ 8) (hfl : (flat [b1, b2, b3]).length ≤ zMaxAt y) (hrv : v = 0 ∨ recvOK (zH z m) (zOwAt y) [b1, b2, b3] = true) (hc : RZ d y 0 (entryL y [b1, b2, b3]) [] (zH z m) (qz z (qi P))) (k : ∀ x m', P x m' → RZ (d + 1) M nx ls (vI x :: st) (zH z m') Q) : RZ (d + 1) M pc ls (b3 :: b2 :: b1 :: st) (zH z m) Q :=
  r_callH h (as := [b1, b2, b3]) (rest := st) rfl rfl hcat hfl hrv hc (fun r H' hq => by
    obtain ⟨m', rfl, x, rfl, hp⟩ := hq
    exact k x m' hp)
theorem r_callL_3 {y : Nat} {b1 b2 b3 : XV} {P : Int → XM → Prop} (h : zA M pc = (65, nx, y, 3, v, [])) (hcat : catSum st ≤ 8) (hfl : (flat [b1, b2, b3]).length ≤ zMaxAt y) (hrv : v = 0 ∨ recvOK (zH z m) (zOwAt y) [b1, b2, b3] = true) (hc : RZ d y 0 (entryL y [b1, b2, b3]) [] (zH z m) (qz z (ql P))) (k : ∀ x m', P x m' → RZ (d + 1) M nx ls (vL x :: st) (zH z m') Q) : RZ (d + 1) M pc ls (b3 :: b2 :: b1 :: st) (zH z m) Q :=
  r_callH h (as := [b1, b2, b3]) (rest := st) rfl rfl hcat hfl hrv hc (fun r H' hq => by
    obtain ⟨m', rfl, x, rfl, hp⟩ := hq
    exact k x m' hp)
theorem r_callV_3 {y : Nat} {b1 b2 b3 : XV} {P : XM → Prop} (h : zA M pc = (65, nx, y, 3, v, [])) (hcat : catSum st ≤ 8) (hfl : (flat [b1, b2, b3]).length ≤ zMaxAt y) (hrv : v = 0 ∨ recvOK (zH z m) (zOwAt y) [b1, b2, b3] = true) (hc : RZ d y 0 (entryL y [b1, b2, b3]) [] (zH z m) (qz z (qv P))) (k : ∀ m', P m' → RZ (d + 1) M nx ls st (zH z m') Q) : RZ (d + 1) M pc ls (b3 :: b2 :: b1 :: st) (zH z m) Q :=
  r_callH h (as := [b1, b2, b3]) (rest := st) rfl rfl hcat hfl hrv hc (fun r H' hq => by
    obtain ⟨m', rfl, rfl, hp⟩ := hq
    exact k m' hp)
theorem r_callI_4 {y : Nat} {b1 b2 b3 b4 : XV} {P : Int → XM → Prop} (h : zA M pc = (65, nx, y, 4, v, [])) (hcat : catSum st ≤ 8) (hfl : (flat [b1, b2, b3, b4]).length ≤ zMaxAt y) (hrv : v = 0 ∨ recvOK (zH z m) (zOwAt y) [b1, b2, b3, b4] = true) (hc : RZ d y 0 (entryL y [b1, b2, b3, b4]) [] (zH z m) (qz z (qi P))) (k : ∀ x m', P x m' → RZ (d + 1) M nx ls (vI x :: st) (zH z m') Q) : RZ (d + 1) M pc ls (b4 :: b3 :: b2 :: b1 :: st) (zH z m) Q :=
  r_callH h (as := [b1, b2, b3, b4]) (rest := st) rfl rfl hcat hfl hrv hc (fun r H' hq => by
    obtain ⟨m', rfl, x, rfl, hp⟩ := hq
    exact k x m' hp)
theorem r_callL_4 {y : Nat} {b1 b2 b3 b4 : XV} {P : Int → XM → Prop} (h : zA M pc = (65, nx, y, 4, v, [])) (hcat : catSum st ≤ 8) (hfl : (flat [b1, b2, b3, b4]).length ≤ zMaxAt y) (hrv : v = 0 ∨ recvOK (zH z m) (zOwAt y) [b1, b2, b3, b4] = true) (hc : RZ d y 0 (entryL y [b1, b2, b3, b4]) [] (zH z m) (qz z (ql P))) (k : ∀ x m', P x m' → RZ (d + 1) M nx ls (vL x :: st) (zH z m') Q) : RZ (d + 1) M pc ls (b4 :: b3 :: b2 :: b1 :: st) (zH z m) Q :=
  r_callH h (as := [b1, b2, b3, b4]) (rest := st) rfl rfl hcat hfl hrv hc (fun r H' hq => by
    obtain ⟨m', rfl, x, rfl, hp⟩ := hq
    exact k x m' hp)
theorem r_callV_4 {y : Nat} {b1 b2 b3 b4 : XV} {P : XM → Prop} (h : zA M pc = (65, nx, y, 4, v, [])) (hcat : catSum st ≤ 8) (hfl : (flat [b1, b2, b3, b4]).length ≤ zMaxAt y) (hrv : v = 0 ∨ recvOK (zH z m) (zOwAt y) [b1, b2, b3, b4] = true) (hc : RZ d y 0 (entryL y [b1, b2, b3, b4]) [] (zH z m) (qz z (qv P))) (k : ∀ m', P m' → RZ (d + 1) M nx ls st (zH z m') Q) : RZ (d + 1) M pc ls (b4 :: b3 :: b2 :: b1 :: st) (zH z m) Q :=
  r_callH h (as := [b1, b2, b3, b4]) (rest := st) rfl rfl hcat hfl hrv hc (fun r H' hq => by
    obtain ⟨m', rfl, rfl, hp⟩ := hq
    exact k m' hp)
theorem r_callI_5 {y : Nat} {b1 b2 b3 b4 b5 : XV} {P : Int → XM → Prop} (h : zA M pc = (65, nx, y, 5, v, [])) (hcat : catSum st ≤ 8) (hfl : (flat [b1, b2, b3, b4, b5]).length ≤ zMaxAt y) (hrv : v = 0 ∨ recvOK (zH z m) (zOwAt y) [b1, b2, b3, b4, b5] = true) (hc : RZ d y 0 (entryL y [b1, b2, b3, b4, b5]) [] (zH z m) (qz z (qi P))) (k : ∀ x m', P x m' → RZ (d + 1) M nx ls (vI x :: st) (zH z m') Q) : RZ (d + 1) M pc ls (b5 :: b4 :: b3 :: b2 :: b1 :: st) (zH z m) Q :=
  r_callH h (as := [b1, b2, b3, b4, b5]) (rest := st) rfl rfl hcat hfl hrv hc (fun r H' hq => by
    obtain ⟨m', rfl, x, rfl, hp⟩ := hq
    exact k x m' hp)
theorem r_callL_5 {y : Nat} {b1 b2 b3 b4 b5 : XV} {P : Int → XM → Prop} (h : zA M pc = (65, nx, y, 5, v, [])) (hcat : catSum st ≤ 8) (hfl : (flat [b1, b2, b3, b4, b5]).length ≤ zMaxAt y) (hrv : v = 0 ∨ recvOK (zH z m) (zOwAt y) [b1, b2, b3, b4, b5] = true) (hc : RZ d y 0 (entryL y [b1, b2, b3, b4, b5]) [] (zH z m) (qz z (ql P))) (k : ∀ x m', P x m' → RZ (d + 1) M nx ls (vL x :: st) (zH z m') Q) : RZ (d + 1) M pc ls (b5 :: b4 :: b3 :: b2 :: b1 :: st) (zH z m) Q :=
  r_callH h (as := [b1, b2, b3, b4, b5]) (rest := st) rfl rfl hcat hfl hrv hc (fun r H' hq => by
    obtain ⟨m', rfl, x, rfl, hp⟩ := hq
    exact k x m' hp)
theorem r_callV_5 {y : Nat} {b1 b2 b3 b4 b5 : XV} {P : XM → Prop} (h : zA M pc = (65, nx, y, 5, v, [])) (hcat : catSum st ≤ 8) (hfl : (flat [b1, b2, b3, b4, b5]).length ≤ zMaxAt y) (hrv : v = 0 ∨ recvOK (zH z m) (zOwAt y) [b1, b2, b3, b4, b5] = true) (hc : RZ d y 0 (entryL y [b1, b2, b3, b4, b5]) [] (zH z m) (qz z (qv P))) (k : ∀ m', P m' → RZ (d + 1) M nx ls st (zH z m') Q) : RZ (d + 1) M pc ls (b5 :: b4 :: b3 :: b2 :: b1 :: st) (zH z m) Q :=
  r_callH h (as := [b1, b2, b3, b4, b5]) (rest := st) rfl rfl hcat hfl hrv hc (fun r H' hq => by
    obtain ⟨m', rfl, rfl, hp⟩ := hq
    exact k m' hp)
theorem r_callI_6 {y : Nat} {b1 b2 b3 b4 b5 b6 : XV} {P : Int → XM → Prop} (h : zA M pc = (65, nx, y, 6, v, [])) (hcat : catSum st ≤ 8) (hfl : (flat [b1, b2, b3, b4, b5, b6]).length ≤ zMaxAt y) (hrv : v = 0 ∨ recvOK (zH z m) (zOwAt y) [b1, b2, b3, b4, b5, b6] = true) (hc : RZ d y 0 (entryL y [b1, b2, b3, b4, b5, b6]) [] (zH z m) (qz z (qi P))) (k : ∀ x m', P x m' → RZ (d + 1) M nx ls (vI x :: st) (zH z m') Q) : RZ (d + 1) M pc ls (b6 :: b5 :: b4 :: b3 :: b2 :: b1 :: st) (zH z m) Q :=
  r_callH h (as := [b1, b2, b3, b4, b5, b6]) (rest := st) rfl rfl hcat hfl hrv hc (fun r H' hq => by
    obtain ⟨m', rfl, x, rfl, hp⟩ := hq
    exact k x m' hp)
theorem r_callL_6 {y : Nat} {b1 b2 b3 b4 b5 b6 : XV} {P : Int → XM → Prop} (h : zA M pc = (65, nx, y, 6, v, [])) (hcat : catSum st ≤ 8) (hfl : (flat [b1, b2, b3, b4, b5, b6]).length ≤ zMaxAt y) (hrv : v = 0 ∨ recvOK (zH z m) (zOwAt y) [b1, b2, b3, b4, b5, b6] = true) (hc : RZ d y 0 (entryL y [b1, b2, b3, b4, b5, b6]) [] (zH z m) (qz z (ql P))) (k : ∀ x m', P x m' → RZ (d + 1) M nx ls (vL x :: st) (zH z m') Q) : RZ (d + 1) M pc ls (b6 :: b5 :: b4 :: b3 :: b2 :: b1 :: st) (zH z m) Q :=
  r_callH h (as := [b1, b2, b3, b4, b5, b6]) (rest := st) rfl rfl hcat hfl hrv hc (fun r H' hq => by
    obtain ⟨m', rfl, x, rfl, hp⟩ := hq
    exact k x m' hp)
theorem r_callV_6 {y : Nat} {b1 b2 b3 b4 b5 b6 : XV} {P : XM → Prop} (h : zA M pc = (65, nx, y, 6, v, [])) (hcat : catSum st ≤ 8) (hfl : (flat [b1, b2, b3, b4, b5, b6]).length ≤ zMaxAt y) (hrv : v = 0 ∨ recvOK (zH z m) (zOwAt y) [b1, b2, b3, b4, b5, b6] = true) (hc : RZ d y 0 (entryL y [b1, b2, b3, b4, b5, b6]) [] (zH z m) (qz z (qv P))) (k : ∀ m', P m' → RZ (d + 1) M nx ls st (zH z m') Q) : RZ (d + 1) M pc ls (b6 :: b5 :: b4 :: b3 :: b2 :: b1 :: st) (zH z m) Q :=
  r_callH h (as := [b1, b2, b3, b4, b5, b6]) (rest := st) rfl rfl hcat hfl hrv hc (fun r H' hq => by
    obtain ⟨m', rfl, rfl, hp⟩ := hq
    exact k m' hp)
theorem r_callI_7 {y : Nat} {b1 b2 b3 b4 b5 b6 b7 : XV} {P : Int → XM → Prop} (h : zA M pc = (65, nx, y, 7, v, [])) (hcat : catSum st ≤ 8) (hfl : (flat [b1, b2, b3, b4, b5, b6, b7]).length ≤ zMaxAt y) (hrv : v = 0 ∨ recvOK (zH z m) (zOwAt y) [b1, b2, b3, b4, b5, b6, b7] = true) (hc : RZ d y 0 (entryL y [b1, b2, b3, b4, b5, b6, b7]) [] (zH z m) (qz z (qi P))) (k : ∀ x m', P x m' → RZ (d + 1) M nx ls (vI x :: st) (zH z m') Q) : RZ (d + 1) M pc ls (b7 :: b6 :: b5 :: b4 :: b3 :: b2 :: b1 :: st) (zH z m) Q :=
  r_callH h (as := [b1, b2, b3, b4, b5, b6, b7]) (rest := st) rfl rfl hcat hfl hrv hc (fun r H' hq => by
    obtain ⟨m', rfl, x, rfl, hp⟩ := hq
    exact k x m' hp)
theorem r_callL_7 {y : Nat} {b1 b2 b3 b4 b5 b6 b7 : XV} {P : Int → XM → Prop} (h : zA M pc = (65, nx, y, 7, v, [])) (hcat : catSum st ≤ 8) (hfl : (flat [b1, b2, b3, b4, b5, b6, b7]).length ≤ zMaxAt y) (hrv : v = 0 ∨ recvOK (zH z m) (zOwAt y) [b1, b2, b3, b4, b5, b6, b7] = true) (hc : RZ d y 0 (entryL y [b1, b2, b3, b4, b5, b6, b7]) [] (zH z m) (qz z (ql P))) (k : ∀ x m', P x m' → RZ (d + 1) M nx ls (vL x :: st) (zH z m') Q) : RZ (d + 1) M pc ls (b7 :: b6 :: b5 :: b4 :: b3 :: b2 :: b1 :: st) (zH z m) Q :=
  r_callH h (as := [b1, b2, b3, b4, b5, b6, b7]) (rest := st) rfl rfl hcat hfl hrv hc (fun r H' hq => by
    obtain ⟨m', rfl, x, rfl, hp⟩ := hq
    exact k x m' hp)
theorem r_callV_7 {y : Nat} {b1 b2 b3 b4 b5 b6 b7 : XV} {P : XM → Prop} (h : zA M pc = (65, nx, y, 7, v, [])) (hcat : catSum st ≤ 8) (hfl : (flat [b1, b2, b3, b4, b5, b6, b7]).length ≤ zMaxAt y) (hrv : v = 0 ∨ recvOK (zH z m) (zOwAt y) [b1, b2, b3, b4, b5, b6, b7] = true) (hc : RZ d y 0 (entryL y [b1, b2, b3, b4, b5, b6, b7]) [] (zH z m) (qz z (qv P))) (k : ∀ m', P m' → RZ (d + 1) M nx ls st (zH z m') Q) : RZ (d + 1) M pc ls (b7 :: b6 :: b5 :: b4 :: b3 :: b2 :: b1 :: st) (zH z m) Q :=
  r_callH h (as := [b1, b2, b3, b4, b5, b6, b7]) (rest := st) rfl rfl hcat hfl hrv hc (fun r H' hq => by
    obtain ⟨m', rfl, rfl, hp⟩ := hq
    exact k m' hp)
end HR
