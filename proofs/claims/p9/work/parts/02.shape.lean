/-! the shape of the world: the cells in the order in which the constructors make them -/
abbrev SC : Type := (Nat × Nat) ⊕ (Nat × List Nat)
def SH : List SC := [
  .inr (10, [4, 15, 20, 22, 25, 30, 45, 51, 55, 64, 0]), -- 0 x
  .inr (7, [5, 6, 7, 8, 9, 10, 11, 12, 13, 14, 0, 0]), -- 1 x.people
  .inl (0, 30), -- 2 x.people.born
  .inl (0, 30), -- 3 x.people.house
  .inl (0, 30), -- 4 x.people.firstRank
  .inl (0, 30), -- 5 x.people.father
  .inl (0, 30), -- 6 x.people.mother
  .inl (0, 30), -- 7 x.people.will
  .inl (0, 30), -- 8 x.people.death
  .inl (0, 60), -- 9 x.people.rankedWho
  .inl (0, 60), -- 10 x.people.rankedAs
  .inl (0, 60), -- 11 x.people.rankedOn
  .inr (2, [16, 17, 18, 19, 0]), -- 12 x.feuds
  .inl (0, 20), -- 13 x.feuds.oneHouse
  .inl (0, 20), -- 14 x.feuds.otherHouse
  .inl (0, 20), -- 15 x.feuds.begun
  .inl (0, 20), -- 16 x.feuds.ended
  .inr (4, [21, 0, 0, 2]), -- 17 x.kinship
  .inl (0, 900), -- 18 x.kinship.steps
  .inr (6, [23, 24, 0]), -- 19 x.laws
  .inl (0, 9), -- 20 x.laws.from
  .inl (0, 180), -- 21 x.laws.values
  .inr (5, [26, 27, 0, 0, 0, 0]), -- 22 x.reader
  .inl (0, 240), -- 23 x.reader.text
  .inr (6, [28, 29, 0]), -- 24 x.reader.draft
  .inl (0, 9), -- 25 x.reader.draft.from
  .inl (0, 180), -- 26 x.reader.draft.values
  .inr (1, [31, 32, 33, 34, 35, 36, 37, 38, 39, 40, 41, 42, 43, 44, 0, 0, 0]), -- 27 x.docket
  .inl (0, 20), -- 28 x.docket.kind
  .inl (0, 20), -- 29 x.docket.accused
  .inl (0, 20), -- 30 x.docket.accuser
  .inl (0, 20), -- 31 x.docket.deed
  .inl (0, 20), -- 32 x.docket.toldOn
  .inl (0, 20), -- 33 x.docket.lawRow
  .inl (0, 20), -- 34 x.docket.foundOn
  .inl (0, 20), -- 35 x.docket.metBy
  .inl (0, 100), -- 36 x.docket.oathWho
  .inl (0, 100), -- 37 x.docket.oathFor
  .inl (0, 100), -- 38 x.docket.oathOn
  .inl (0, 100), -- 39 x.docket.oathWeight
  .inl (0, 120), -- 40 x.docket.eventIs
  .inl (0, 120), -- 41 x.docket.eventOn
  .inr (0, [4, 15, 20, 22, 30, 46, 47, 48, 49, 50, 0, 0]), -- 42 x.anew
  .inl (0, 20), -- 43 x.anew.state
  .inl (0, 20), -- 44 x.anew.decidedOn
  .inl (0, 20), -- 45 x.anew.total
  .inl (0, 100), -- 46 x.anew.oathCounts
  .inl (0, 20), -- 47 x.anew.remembered
  .inr (8, [52, 53, 54, 0]), -- 48 x.purse
  .inl (0, 60), -- 49 x.purse.payer
  .inl (0, 60), -- 50 x.purse.paid
  .inl (0, 60), -- 51 x.purse.paidOn
  .inr (3, [4, 30, 45, 56, 57, 58, 59, 60, 61, 62, 63, 0, 0, 0, 0, 2, 0, 0]), -- 52 x.finding
  .inl (0, 5), -- 53 x.finding.charges
  .inl (0, 5), -- 54 x.finding.enoughSize
  .inl (0, 1260), -- 55 x.finding.enough
  .inl (0, 10), -- 56 x.finding.callable
  .inl (0, 10), -- 57 x.finding.weight
  .inl (0, 30), -- 58 x.finding.room
  .inl (0, 5), -- 59 x.finding.way
  .inl (0, 5), -- 60 x.finding.best
  .inr (9, [65, 66, 67, 0]), -- 61 x.rings
  .inl (0, 30), -- 62 x.rings.stoodFor
  .inl (0, 30), -- 63 x.rings.distance
  .inl (0, 30), -- 64 x.rings.row
  .inr (11, [0, 0, 69, 70, 71, 72, 73, 74, 75, 0, 76, 0, 77, 78, 0, 0, 0, 79, 80, 81, 82, 0, 83, 84, 85, 86, 87, 88, 0, 89, 90, 91, 92, 93, 0, 0, 94, 0, 95, 96, 0, 0, 2, 0, 1, 0, 0, 0, 97, 98, 99, 100, 101, 0, 102, 103, 104, 105, 106, 107, 108, 109, 0, 2, 0, 0, 110]), -- 65 m
  .inl (0, 30), -- 66 m.born
  .inl (0, 30), -- 67 m.house
  .inl (0, 30), -- 68 m.firstRank
  .inl (0, 30), -- 69 m.father
  .inl (0, 30), -- 70 m.mother
  .inl (0, 30), -- 71 m.will
  .inl (0, 30), -- 72 m.dead
  .inl (0, 180), -- 73 m.ranks
  .inl (0, 80), -- 74 m.quarrels
  .inl (0, 240), -- 75 m.text
  .inl (0, 8), -- 76 m.partDay
  .inl (0, 160), -- 77 m.says
  .inl (0, 8), -- 78 m.freshDay
  .inl (0, 160), -- 79 m.freshSays
  .inl (0, 20), -- 80 m.kind
  .inl (0, 20), -- 81 m.accused
  .inl (0, 20), -- 82 m.accuser
  .inl (0, 20), -- 83 m.deed
  .inl (0, 20), -- 84 m.toldOn
  .inl (0, 20), -- 85 m.foundOn
  .inl (0, 120), -- 86 m.deedPerson
  .inl (0, 120), -- 87 m.deedCharge
  .inl (0, 120), -- 88 m.deedDay
  .inl (1, 120), -- 89 m.deedMet
  .inl (0, 120), -- 90 m.deedRank
  .inl (0, 180), -- 91 m.paid
  .inl (0, 30), -- 92 m.upOne
  .inl (0, 30), -- 93 m.upTwo
  .inl (0, 20), -- 94 m.states
  .inl (0, 20), -- 95 m.decided
  .inl (0, 20), -- 96 m.total
  .inl (0, 120), -- 97 m.counts
  .inl (0, 20), -- 98 m.before
  .inl (0, 5), -- 99 m.asked
  .inl (0, 5), -- 100 m.callMany
  .inl (0, 50), -- 101 m.callWho
  .inl (1, 5120), -- 102 m.isEnough
  .inl (0, 5), -- 103 m.tried
  .inl (0, 5), -- 104 m.bestSets
  .inl (0, 30), -- 105 m.times
  .inl (0, 30), -- 106 m.most
  .inl (0, 30) -- 107 m.away
  ]
/-- what the cells hold at first, where it is not 0 -/
def IN0 : List (Nat × Nat × Int) := [(21, 0, 12), (21, 1, 12), (21, 2, 12), (21, 3, 12), (21, 4, 1), (21, 5, 1), (21, 6, 1), (21, 7, 1), (21, 8, 2), (21, 10, 1), (21, 14, 10), (21, 15, 10), (21, 16, 10), (21, 17, 10), (22, 5, -1), (26, 0, 12), (26, 1, 12), (26, 2, 12), (26, 3, 12), (26, 4, 1), (26, 5, 1), (26, 6, 1), (26, 7, 1), (26, 8, 2), (26, 10, 1), (26, 14, 10), (26, 15, 10), (26, 16, 10), (26, 17, 10), (52, 13, 1000), (65, 15, -1), (65, 37, 1000)]
