/-! THE KERNEL'S CHECKS OF THE CONTRACTS: printed by program -/
def nL3 : List (Nat × Nat × List (Option mI)) := [(192, 2, nC192)]
def nT3' : List (Nat × List rCo) := []
def nH3' : List (Nat × Nat × rHt) := []
set_option maxRecDepth 100000 in
theorem nV3' : rChk 158 (rLk nL3) nHn (rLm nL3) (rHl nH3') nJ0 nOr0 (rTab nT3') 3000 192 nK3 = true := by decide +kernel
def nL12 : List (Nat × Nat × List (Option mI)) := [(160, 3, nC160), (206, 2, nC206)]
def nT12' : List (Nat × List rCo) := [(136, [nK0]), (198, [nK6])]
def nH12' : List (Nat × Nat × rHt) := [(160, 0, .inr (.inl ((0, 165, 11), [1, 2, 3, 4, 5, 6, 7, 8, 9, 10, 11, 12, 13, 14, 15, 16, 17, 18, 19, 20, 21, 22, 23, 24, 25, 26, 27, 28, 29, 30, 31, 32, 33, 34, 35, 36, 37, 38, 39, 40, 41, 42, 43, 44, 45, 46, 47, 48, 49, 50, 51, 52, 53, 54, 55, 56, 57, 58, 59, 60, 61, 62, 63], (0, 0, 0)))), (160, 48, .inl ([(2, 2, 0, 0, 63, 0, 0)], [0, 1], (0, 1), (0, 0, 0)))]
set_option maxRecDepth 100000 in
theorem nV12' : rChk 158 (rLk nL12) nHn (rLm nL12) (rHl nH12') nJ0 nOr0 (rTab nT12') 3000 160 nK12 = true := by decide +kernel
def nL17 : List (Nat × Nat × List (Option mI)) := [(165, 1, nC165), (209, 3, nC209), (210, 1, nC210)]
def nT17' : List (Nat × List rCo) := [(136, [nK0]), (212, [nK5]), (76, [nK4]), (86, [nK2])]
def nH17' : List (Nat × Nat × rHt) := []
set_option maxRecDepth 100000 in
theorem nV17' : rChk 158 (rLk nL17) nHn (rLm nL17) (rHl nH17') nJ0 nOr0 (rTab nT17') 3000 165 nK17 = true := by decide +kernel
def nL24 : List (Nat × Nat × List (Option mI)) := [(82, 2, nC82)]
def nT24' : List (Nat × List rCo) := []
def nH24' : List (Nat × Nat × rHt) := [(82, 32, .inl ([(2, 1, 0, 0, 240, 0, 0)], [0], (0, 1), (0, 0, 0)))]
set_option maxRecDepth 100000 in
theorem nV24' : rChk 158 (rLk nL24) nHn (rLm nL24) (rHl nH24') nJ0 nOr0 (rTab nT24') 3000 82 nK24 = true := by decide +kernel
def nL25 : List (Nat × Nat × List (Option mI)) := [(124, 1, nC124)]
def nT25' : List (Nat × List rCo) := []
def nH25' : List (Nat × Nat × rHt) := [(124, 0, .inl ([(0, 167, 2, 0, 240, 0, 0)], [0], (0, 1), (0, 0, 0)))]
set_option maxRecDepth 100000 in
theorem nV25' : rChk 158 (rLk nL25) nHn (rLm nL25) (rHl nH25') nJ0 nOr0 (rTab nT25') 3000 124 nK25 = true := by decide +kernel
def nL39 : List (Nat × Nat × List (Option mI)) := [(125, 7, nC125), (183, 1, nC183), (217, 1, nC217), (184, 2, nC184), (218, 1, nC218), (219, 2, nC219)]
def nT39' : List (Nat × List rCo) := [(226, [nKc 0 2, nKc 1 2, nKc 0 3, nKc 1 3, nKc 2 3, nKc 0 4, nKc 1 4, nKc 2 4, nKc 3 4]), (185, [nK34])]
def nH39' : List (Nat × Nat × rHt) := []
set_option maxRecDepth 100000 in
theorem nV39' : rChk 158 (rLk nL39) nHn (rLm nL39) (rHl nH39') nJ0 nOr0 (rTab nT39') 3000 125 nK39 = true := by decide +kernel
def nL41 : List (Nat × Nat × List (Option mI)) := [(125, 7, nC125), (183, 1, nC183), (217, 1, nC217), (184, 2, nC184), (218, 1, nC218), (219, 2, nC219)]
def nT41' : List (Nat × List rCo) := [(226, [nKc 0 2, nKc 1 2, nKc 0 3, nKc 1 3, nKc 2 3, nKc 0 4, nKc 1 4, nKc 2 4, nKc 3 4]), (185, [nK34])]
def nH41' : List (Nat × Nat × rHt) := []
set_option maxRecDepth 100000 in
theorem nV41' : rChk 158 (rLk nL41) nHn (rLm nL41) (rHl nH41') nJ0 nOr0 (rTab nT41') 3000 125 nK41 = true := by decide +kernel
def nL51 : List (Nat × Nat × List (Option mI)) := [(125, 7, nC125), (183, 1, nC183), (217, 1, nC217), (184, 2, nC184), (218, 1, nC218), (219, 2, nC219)]
def nT51' : List (Nat × List rCo) := [(226, [nKc 0 2, nKc 1 2, nKc 0 3, nKc 1 3, nKc 2 3, nKc 0 4, nKc 1 4, nKc 2 4, nKc 3 4]), (185, [nK34])]
def nH51' : List (Nat × Nat × rHt) := []
set_option maxRecDepth 100000 in
theorem nV51' : rChk 158 (rLk nL51) nHn (rLm nL51) (rHl nH51') nJ0 nOr0 (rTab nT51') 3000 125 nK51 = true := by decide +kernel
def nL53 : List (Nat × Nat × List (Option mI)) := [(125, 7, nC125), (183, 1, nC183), (217, 1, nC217), (184, 2, nC184), (218, 1, nC218), (219, 2, nC219)]
def nT53' : List (Nat × List rCo) := [(226, [nKc 0 2, nKc 1 2, nKc 0 3, nKc 1 3, nKc 2 3, nKc 0 4, nKc 1 4, nKc 2 4, nKc 3 4]), (185, [nK34])]
def nH53' : List (Nat × Nat × rHt) := []
set_option maxRecDepth 100000 in
theorem nV53' : rChk 158 (rLk nL53) nHn (rLm nL53) (rHl nH53') nJ0 nOr0 (rTab nT53') 3000 125 nK53 = true := by decide +kernel
def nL67 : List (Nat × Nat × List (Option mI)) := [(125, 7, nC125), (183, 1, nC183), (217, 1, nC217), (184, 2, nC184), (218, 1, nC218), (219, 2, nC219)]
def nT67' : List (Nat × List rCo) := [(226, [nKc 0 2, nKc 1 2, nKc 0 3, nKc 1 3, nKc 2 3, nKc 0 4, nKc 1 4, nKc 2 4, nKc 3 4]), (185, [nK34])]
def nH67' : List (Nat × Nat × rHt) := []
set_option maxRecDepth 100000 in
theorem nV67' : rChk 158 (rLk nL67) nHn (rLm nL67) (rHl nH67') nJ0 nOr0 (rTab nT67') 3000 125 nK67 = true := by decide +kernel
def nL78 : List (Nat × Nat × List (Option mI)) := [(125, 7, nC125), (183, 1, nC183), (217, 1, nC217), (184, 2, nC184), (218, 1, nC218), (219, 2, nC219)]
def nT78' : List (Nat × List rCo) := [(226, [nKc 0 2, nKc 1 2, nKc 0 3, nKc 1 3, nKc 2 3, nKc 0 4, nKc 1 4, nKc 2 4, nKc 3 4]), (185, [nK34])]
def nH78' : List (Nat × Nat × rHt) := []
set_option maxRecDepth 100000 in
theorem nV78' : rChk 158 (rLk nL78) nHn (rLm nL78) (rHl nH78') nJ0 nOr0 (rTab nT78') 3000 125 nK78 = true := by decide +kernel
def nL82 : List (Nat × Nat × List (Option mI)) := [(125, 7, nC125), (183, 1, nC183), (217, 1, nC217), (184, 2, nC184), (218, 1, nC218), (219, 2, nC219)]
def nT82' : List (Nat × List rCo) := [(226, [nKc 0 2, nKc 1 2, nKc 0 3, nKc 1 3, nKc 2 3, nKc 0 4, nKc 1 4, nKc 2 4, nKc 3 4]), (185, [nK34])]
def nH82' : List (Nat × Nat × rHt) := []
set_option maxRecDepth 100000 in
theorem nV82' : rChk 158 (rLk nL82) nHn (rLm nL82) (rHl nH82') nJ0 nOr0 (rTab nT82') 3000 125 nK82 = true := by decide +kernel
def nL92 : List (Nat × Nat × List (Option mI)) := [(189, 6, nC189)]
def nT92' : List (Nat × List rCo) := [(127, [nK29]), (221, [nK91]), (222, [nK30]), (223, [nK90])]
def nH92' : List (Nat × Nat × rHt) := [(189, 43, .inl ([(2, 4, 0, 0, 240, 0, 0), (3, 2, 0, -9223372036854775808, 9223372036854775807, 0, 0), (0, 167, 2, 0, 240, 0, 0), (0, 167, 4, 0, 240, 0, 0), (0, 167, 5, 0, 240, 0, 0), (1, 167, 6, -9223372036854775808, 9223372036854775807, 0, 0), (0, 167, 7, -2147483648, 2147483647, 0, 0), (0, 167, 8, -2147483648, 2147483647, 0, 0), (0, 167, 9, -2147483648, 2147483647, 0, 0)], [0, 1], (0, 1), (0, 0, 0)))]
set_option maxRecDepth 100000 in
theorem nV92' : rChk 158 (rLk nL92) nHn (rLm nL92) (rHl nH92') nJ0 nOr0 (rTab nT92') 3000 189 nK92 = true := by decide +kernel
def nL94 : List (Nat × Nat × List (Option mI)) := [(188, 2, nC188), (121, 1, nC121), (122, 1, nC122), (123, 2, nC123)]
def nT94' : List (Nat × List rCo) := [(68, [nK31, nK32]), (182, [nK33])]
def nH94' : List (Nat × Nat × rHt) := []
set_option maxRecDepth 100000 in
theorem nV94' : rChk 158 (rLk nL94) nHn (rLm nL94) (rHl nH94') nJ0 nOr0 (rTab nT94') 3000 188 nK94 = true := by decide +kernel
def nL100 : List (Nat × Nat × List (Option mI)) := [(60, 3, nC60), (85, 3, nC85)]
def nT100' : List (Nat × List rCo) := [(81, [nK23]), (82, [nK24]), (83, [nK89]), (84, [nK85]), (86, [nK2]), (87, [nK88]), (88, [nK97]), (89, [nK98]), (90, [nK99]), (91, [nK87])]
def nH100' : List (Nat × Nat × rHt) := []
set_option maxRecDepth 100000 in
theorem nV100' : rChk 158 (rLk nL100) nHn (rLm nL100) (rHl nH100') nJ0 nOr0 (rTab nT100') 3000 60 nK100 = true := by decide +kernel
def nL104 : List (Nat × Nat × List (Option mI)) := [(61, 1, nC61), (95, 2, nC95)]
def nT104' : List (Nat × List rCo) := [(92, [nK101]), (93, [nK102]), (94, [nK103])]
def nH104' : List (Nat × Nat × rHt) := []
set_option maxRecDepth 100000 in
theorem nV104' : rChk 158 (rLk nL104) nHn (rLm nL104) (rHl nH104') nJ0 nOr0 (rTab nT104') 3000 61 nK104 = true := by decide +kernel
def nL108 : List (Nat × Nat × List (Option mI)) := [(73, 1, nC73)]
def nT108' : List (Nat × List rCo) := []
def nH108' : List (Nat × Nat × rHt) := []
set_option maxRecDepth 100000 in
theorem nV108' : rChk 158 (rLk nL108) nHn (rLm nL108) (rHl nH108') nJ0 nOr0 (rTab nT108') 3000 73 nK108 = true := by decide +kernel
def nL109 : List (Nat × Nat × List (Option mI)) := [(74, 1, nC74), (70, 1, nC70)]
def nT109' : List (Nat × List rCo) := [(73, [nK108])]
def nH109' : List (Nat × Nat × rHt) := []
set_option maxRecDepth 100000 in
theorem nV109' : rChk 158 (rLk nL109) nHn (rLm nL109) (rHl nH109') nJ0 nOr0 (rTab nT109') 3000 74 nK109 = true := by decide +kernel
def nL120 : List (Nat × Nat × List (Option mI)) := [(173, 6, nC173)]
def nT120' : List (Nat × List rCo) := [(169, [nK118]), (74, [nK109])]
def nH120' : List (Nat × Nat × rHt) := []
set_option maxRecDepth 100000 in
theorem nV120' : rChk 158 (rLk nL120) nHn (rLm nL120) (rHl nH120') nJ0 nOr0 (rTab nT120') 3000 173 nK120 = true := by decide +kernel
def nL123 : List (Nat × Nat × List (Option mI)) := [(110, 5, nC110), (113, 2, nC113), (174, 2, nC174), (70, 1, nC70), (175, 6, nC175)]
def nT123' : List (Nat × List rCo) := [(73, [nK108]), (146, [nK110])]
def nH123' : List (Nat × Nat × rHt) := []
set_option maxRecDepth 100000 in
theorem nV123' : rChk 158 (rLk nL123) nHn (rLm nL123) (rHl nH123') nJ0 nOr0 (rTab nT123') 3000 110 nK123 = true := by decide +kernel
def nL136 : List (Nat × Nat × List (Option mI)) := [(66, 3, nC66), (96, 1, nC96), (139, 1, nC139), (36, 3, nC36)]
def nT136' : List (Nat × List rCo) := []
def nH136' : List (Nat × Nat × rHt) := [(66, 0, .inr (.inl ((0, 183, 22), [240], (0, 0, 0)))), (66, 2, .inl ([(2, 2, 0, 0, 0, 4, 183022), (0, 190, 2, 0, 239, 0, 0), (0, 190, 3, -2147483648, 2147483647, 0, 0), (0, 190, 4, 0, 239, 0, 0), (0, 190, 5, -2147483648, 2147483647, 0, 0)], [0, 1], (0, 1), (0, 0, 0))), (66, 28, .inr (.inl ((2, 2, 0), [240], (0, 0, 0))))]
set_option maxRecDepth 100000 in
theorem nV136' : rChk 158 (rLk nL136) nHn (rLm nL136) (rHl nH136') nJ0 nOr0 (rTab nT136') 3000 66 nK136 = true := by decide +kernel
def nL152 : List (Nat × Nat × List (Option mI)) := [(105, 6, nC105), (70, 1, nC70), (40, 1, nC40)]
def nT152' : List (Nat × List rCo) := [(73, [nK108]), (146, [nK110])]
def nH152' : List (Nat × Nat × rHt) := [(105, 0, .inr (.inl ((0, 183, 37), [1, 2, 3, 4, 5, 6, 7, 8, 9, 10, 11, 12, 13, 14, 15, 16, 17, 18, 19, 20, 21, 22, 23, 24, 25, 26, 27, 28, 29, 30, 31, 32, 33, 34, 35, 36, 37, 38, 39, 40, 41, 42, 43, 44, 45, 46, 47, 48, 49, 50, 51, 52, 53, 54, 55, 56, 57, 58, 59, 60], (0, 0, 0)))), (105, 3, .inl ([(2, 5, 0, 0, 60, 0, 0)], [0, 1, 2, 3, 4], (0, 1), (0, 0, 0)))]
set_option maxRecDepth 100000 in
theorem nV152' : rChk 158 (rLk nL152) nHn (rLm nL152) (rHl nH152') nJ0 nOr0 (rTab nT152') 3000 105 nK152 = true := by decide +kernel
def nL163 : List (Nat × Nat × List (Option mI)) := [(8, 4, nC8), (40, 1, nC40), (37, 2, nC37)]
def nT163' : List (Nat × List rCo) := [(39, [nK162]), (41, [nK161])]
def nH163' : List (Nat × Nat × rHt) := [(8, 13, .inl ([(2, 2, 0, 0, 241, 0, 0), (2, 1, 0, 0, 242, 2, 1), (0, 183, 21, 0, 250, 0, 0), (0, 183, 22, 0, 240, 0, 0), (0, 183, 24, -2147483648, 2147483647, 0, 0), (0, 183, 25, -2147483648, 2147483647, 0, 0), (0, 183, 29, 0, 30, 0, 0), (0, 183, 33, 0, 20, 0, 0), (0, 183, 37, 0, 60, 0, 0), (6, 201, 0, 8, 0, 3, 0), (0, 201, 1, -2147483648, 2147483647, 0, 0), (0, 183, 26, 0, 1, 0, 0), (0, 190, 0, 0, 239, 0, 0), (0, 190, 1, -2147483648, 2147483647, 0, 0), (0, 190, 2, 0, 239, 0, 0), (0, 190, 3, -2147483648, 2147483647, 0, 0), (0, 190, 4, 0, 239, 0, 0), (0, 190, 5, -2147483648, 2147483647, 0, 0)], [0], (0, 1), (0, 0, 0))), (8, 27, .inr (.inl ((2, 2, 0), [241], (0, 0, 0)))), (8, 32, .inl ([(2, 3, 0, 0, 0, 4, 183018), (0, 190, 2, 0, 239, 0, 0), (0, 190, 3, -2147483648, 2147483647, 0, 0), (0, 190, 4, 0, 239, 0, 0), (0, 190, 5, -2147483648, 2147483647, 0, 0)], [0, 1, 2], (0, 1), (0, 0, 0))), (8, 116, .inl ([(2, 3, 0, 0, 200, 0, 0)], [0], (0, 1), (0, 0, 0))), (8, 160, .inl ([(2, 3, 0, 0, 30, 0, 0)], [0], (0, 1), (0, 0, 0)))]
set_option maxRecDepth 100000 in
theorem nV163' : rChk 158 (rLk nL163) nHn (rLm nL163) (rHl nH163') nJ0 nOr0 (rTab nT163') 3000 8 nK163 = true := by decide +kernel
