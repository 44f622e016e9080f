/-! ===== the heap's shape behind both constructors: cells 0 .. 87 are the class's, the rest the reference's ===== -/
def G0 : List GC := [(0, 11, [some 1, some 8, some 10, some 17, some 22, some 33, some 68, some 72, some 75, some 79, none]),
  (0, 3, [some 2, some 3, some 4, some 5, some 6, some 7, none]),
  (1, 60, []),
  (1, 60, []),
  (1, 60, []),
  (1, 60, []),
  (1, 60, []),
  (2, 60, []),
  (0, 6, [some 9, none]),
  (1, 60, []),
  (0, 9, [some 11, some 13, some 15, none, none, none]),
  (0, 8, [some 12, none]),
  (1, 64, []),
  (0, 8, [some 14, none]),
  (1, 64, []),
  (0, 8, [some 16, none]),
  (1, 64, []),
  (0, 7, [some 18, some 20]),
  (0, 8, [some 19, none]),
  (1, 64, []),
  (0, 8, [some 21, none]),
  (1, 64, []),
  (0, 10, [some 23, some 24, some 25, some 26, none, none, none, some 27, some 28, some 29, none, some 30, some 31, some 32]),
  (1, 12, []),
  (1, 12, []),
  (1, 12, []),
  (1, 12, []),
  (1, 6, []),
  (1, 6, []),
  (1, 6, []),
  (1, 6, []),
  (1, 12, []),
  (1, 6, []),
  (0, 2, [some 34, none, none, none, none, some 35, some 67]),
  (1, 60, []),
  (4, 31, [some 36, some 37, some 38, some 39, some 40, some 41, some 42, some 43, some 44, some 45, some 46, some 47, some 48, some 49, some 50, some 51, some 52, some 53, some 54, some 55, some 56, some 57, some 58, some 59, some 60, some 61, some 62, some 63, some 64, some 65, some 66]),
  (3, 13, []),
  (3, 13, []),
  (3, 13, []),
  (3, 13, []),
  (3, 13, []),
  (3, 13, []),
  (3, 13, []),
  (3, 13, []),
  (3, 13, []),
  (3, 13, []),
  (3, 13, []),
  (3, 13, []),
  (3, 13, []),
  (3, 13, []),
  (3, 13, []),
  (3, 13, []),
  (3, 13, []),
  (3, 13, []),
  (3, 13, []),
  (3, 13, []),
  (3, 13, []),
  (3, 13, []),
  (3, 13, []),
  (3, 13, []),
  (3, 13, []),
  (3, 13, []),
  (3, 13, []),
  (3, 13, []),
  (3, 13, []),
  (3, 13, []),
  (3, 13, []),
  (3, 13, []),
  (0, 0, [some 69, some 70, some 71, none, none, none, none, none]),
  (1, 20, []),
  (1, 20, []),
  (1, 20, []),
  (0, 5, [some 73, some 74]),
  (1, 4, []),
  (1, 4, []),
  (0, 1, [some 76, some 77, some 78]),
  (1, 6, []),
  (1, 6, []),
  (1, 6, []),
  (0, 4, [some 80, some 82, some 84, some 86]),
  (0, 8, [some 81, none]),
  (1, 64, []),
  (0, 8, [some 83, none]),
  (1, 64, []),
  (0, 8, [some 85, none]),
  (1, 64, []),
  (0, 8, [some 87, none]),
  (1, 64, []),
  (0, 12, [some 89, some 90, some 91, none, none, some 92, none, some 93, some 94, none, none, none, some 95, none, some 96, none, some 97, none, none, none, none, some 98, none, none, none, some 99, some 100, some 101, some 102, none, some 103, some 104, none, none, none, none]),
  (1, 396, []),
  (1, 6, []),
  (1, 360, []),
  (1, 60, []),
  (1, 5168, []),
  (1, 5168, []),
  (1, 48, []),
  (1, 6, []),
  (1, 6, []),
  (1, 60, []),
  (3, 403, []),
  (3, 403, []),
  (3, 13, []),
  (1, 60, []),
  (1, 8, []),
  (1, 18, [])]
-- T: 0
-- finds: 1
-- marks: 8
-- sureness: 10
-- mouldOdds: 17
-- words: 22
-- dates: 33
-- agents: 68
-- fronts: 72
-- books: 75
-- fraction: 79
-- M: 88
-- M.limbs: 89
-- M.wide: 90
-- M.found: 91
-- M.numbers: 92
-- M.weight: 93
-- M.upTo: 94
-- M.coded: 95
-- M.key: 96
-- M.may: 97
-- M.row: 98
-- M.sets: 99
-- M.next: 100
-- M.onto: 101
-- M.pairs: 102
-- M.fronts: 103
-- M.books: 104
theorem isN_11 : isN G0 11 := ⟨rfl, rfl⟩
theorem isN_13 : isN G0 13 := ⟨rfl, rfl⟩
theorem isN_15 : isN G0 15 := ⟨rfl, rfl⟩
theorem isN_18 : isN G0 18 := ⟨rfl, rfl⟩
theorem isN_20 : isN G0 20 := ⟨rfl, rfl⟩
theorem isN_80 : isN G0 80 := ⟨rfl, rfl⟩
theorem isN_82 : isN G0 82 := ⟨rfl, rfl⟩
theorem isN_84 : isN G0 84 := ⟨rfl, rfl⟩
theorem isN_86 : isN G0 86 := ⟨rfl, rfl⟩
theorem isF_79 : isF G0 79 := ⟨rfl, isN_80, isN_82, isN_84, isN_86⟩
