/-! Places that throw; tables of handlers, by program. -/
/-- method, pc, exception, places of the class, the text and the constructor in the pool, the text, words -/
def q_ths : List (Nat × Nat × Nat × Nat × Nat × Nat × String × Nat × Nat) := [(14, 15, 0, 94, 96, 98, "no such place", 1066, 1107),
  (14, 43, 1, 101, 103, 105, "no such character", 1134, 1143),
  (14, 66, 2, 106, 108, 110, "the text is full", 1150, 1159),
  (15, 15, 0, 94, 96, 98, "no such place", 1066, 1107),
  (15, 43, 1, 101, 115, 105, "not so many", 1134, 1178),
  (17, 15, 0, 94, 96, 98, "no such place", 1066, 1107),
  (20, 19, 0, 94, 131, 98, "no such node", 1066, 1198),
  (20, 96, 1, 101, 145, 105, "nothing of that number is told", 1134, 1209),
  (21, 19, 0, 94, 131, 98, "no such node", 1066, 1198),
  (21, 45, 0, 94, 147, 98, "no such child", 1066, 1217),
  (22, 19, 0, 94, 96, 98, "no such place", 1066, 1107),
  (23, 19, 0, 94, 131, 98, "no such node", 1066, 1198),
  (23, 42, 2, 106, 159, 110, "no link", 1150, 1244),
  (24, 10, 1, 101, 167, 105, "no such kind", 1134, 1262),
  (25, 9, 1, 101, 172, 105, "no such target", 1134, 1274),
  (26, 9, 1, 101, 172, 105, "no such target", 1134, 1274),
  (26, 44, 0, 94, 96, 98, "no such place", 1066, 1107),
  (28, 9, 1, 101, 184, 105, "no such slot", 1134, 1293),
  (29, 9, 1, 101, 184, 105, "no such slot", 1134, 1293)]
def q_hhs : List (Nat × List (Nat × Nat × Nat × Nat)) := [(1, [(0, 10, 13, 13), (0, 10, 17, 15), (0, 10, 21, 17)]),
  (2, [(0, 10, 13, 13), (0, 10, 17, 15)]),
  (3, [(0, 9, 12, 13)]),
  (4, [(0, 10, 13, 13), (0, 10, 17, 15)]),
  (5, [(0, 10, 13, 13)]),
  (6, [(0, 9, 12, 13)]),
  (7, [(0, 9, 12, 13), (0, 9, 15, 17)]),
  (8, [(0, 9, 12, 15)]),
  (9, [(0, 9, 12, 15)]),
  (10, [(0, 10, 13, 15), (0, 10, 17, 13)]),
  (11, [(0, 9, 12, 15)]),
  (12, [(0, 9, 12, 15)])]
def q_hh (M : Nat) : List (Nat × Nat × Nat × Nat) := (q_hhs.lookup M).getD []
/-- words of the classes that the handlers name: the law's own links -/
def q_hw : List (Nat × Nat) := [(13, 1059), (15, 1060), (17, 1061)]
