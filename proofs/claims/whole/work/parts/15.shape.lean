/-! the shape behind the two constructors; cell 0 is the script (of zn ints), 1 to 4 the arrays of constants -/
def zSHr : List zE := [
  (5, 6, []),
  (4, 5, []),
  (4, 5, []),
  (4, 8, []),
  (3, 11, [some 6, some 11, some 26, some 34, some 37, some 43, some 49, some 55, some 59, some 62, some 67, some 73, some 84, none, none, none]),
  (2, 0, [some 7, some 9]),
  (3, 7, [some 8, none]),
  (0, 200, []),
  (3, 7, [some 10, none]),
  (0, 200, []),
  (2, 1, [some 12, some 19]),
  (3, 10, [some 13, some 14, some 15, some 16, some 17, some 18, none, none]),
  (0, 200, []),
  (0, 19, []),
  (0, 19, []),
  (0, 19, []),
  (0, 19, []),
  (0, 13, []),
  (3, 10, [some 20, some 21, some 22, some 23, some 24, some 25, none, none]),
  (0, 200, []),
  (0, 19, []),
  (0, 19, []),
  (0, 19, []),
  (0, 19, []),
  (0, 13, []),
  (3, 5, [some 27, none, none, none, none]),
  (3, 10, [some 28, some 29, some 30, some 31, some 32, some 33, none, none]),
  (0, 200, []),
  (0, 19, []),
  (0, 19, []),
  (0, 19, []),
  (0, 19, []),
  (0, 13, []),
  (3, 6, [some 35, some 36, none, none]),
  (0, 19, []),
  (0, 18, []),
  (3, 4, [some 38, some 39, some 40, some 41, some 42]),
  (1, 19, []),
  (1, 19, []),
  (1, 19, []),
  (1, 19, []),
  (1, 18, []),
  (3, 4, [some 44, some 45, some 46, some 47, some 48]),
  (1, 19, []),
  (1, 19, []),
  (1, 19, []),
  (1, 19, []),
  (1, 18, []),
  (3, 4, [some 50, some 51, some 52, some 53, some 54]),
  (1, 19, []),
  (1, 19, []),
  (1, 19, []),
  (1, 19, []),
  (1, 18, []),
  (3, 2, [some 56, some 57, some 58]),
  (0, 7, []),
  (0, 7, []),
  (0, 5, []),
  (3, 0, [some 60, some 61]),
  (0, 18, []),
  (0, 18, []),
  (3, 8, [some 63, some 64, some 65, some 66]),
  (0, 19, []),
  (0, 19, []),
  (0, 18, []),
  (0, 18, []),
  (3, 1, [some 68, some 69, none, none, some 70, none, none, some 71, some 72]),
  (0, 7, []),
  (0, 8, []),
  (0, 7, []),
  (0, 7, []),
  (0, 8, []),
  (3, 9, [some 74, some 75, none, some 76, some 77, some 83]),
  (0, 10, []),
  (0, 10, []),
  (1, 10, []),
  (3, 4, [some 78, some 79, some 80, some 81, some 82]),
  (1, 19, []),
  (1, 19, []),
  (1, 19, []),
  (1, 19, []),
  (1, 18, []),
  (1, 19, []),
  (2, 2, [some 85, some 100]),
  (3, 3, [some 86, some 93, none, none, none]),
  (3, 10, [some 87, some 88, some 89, some 90, some 91, some 92, none, none]),
  (0, 200, []),
  (0, 19, []),
  (0, 19, []),
  (0, 19, []),
  (0, 19, []),
  (0, 13, []),
  (3, 10, [some 94, some 95, some 96, some 97, some 98, some 99, none, none]),
  (0, 200, []),
  (0, 19, []),
  (0, 19, []),
  (0, 19, []),
  (0, 19, []),
  (0, 13, []),
  (3, 3, [some 101, some 108, none, none, none]),
  (3, 10, [some 102, some 103, some 104, some 105, some 106, some 107, none, none]),
  (0, 200, []),
  (0, 19, []),
  (0, 19, []),
  (0, 19, []),
  (0, 19, []),
  (0, 13, []),
  (3, 10, [some 109, some 110, some 111, some 112, some 113, some 114, none, none]),
  (0, 200, []),
  (0, 19, []),
  (0, 19, []),
  (0, 19, []),
  (0, 19, []),
  (0, 13, []),
  (3, 12, [some 116, some 117, some 118, some 119, some 120, some 121, some 122, some 123, some 124, some 125, some 126, none, none, some 127, some 128, some 129, some 130, some 131, none, none, some 132, some 133, some 134, some 135, some 136, some 137, some 138, none, some 139, none, some 140, some 141, some 142, none, some 143, some 144, some 145, none, some 146, some 147]),
  (0, 400, []),
  (0, 2, []),
  (0, 1400, []),
  (0, 133, []),
  (0, 133, []),
  (0, 7, []),
  (0, 63, []),
  (0, 7, []),
  (0, 12, []),
  (0, 3, []),
  (0, 3, []),
  (0, 7, []),
  (0, 7, []),
  (0, 5, []),
  (0, 19, []),
  (0, 10, []),
  (0, 19, []),
  (0, 10, []),
  (0, 10, []),
  (0, 19, []),
  (0, 19, []),
  (0, 10, []),
  (0, 10, []),
  (0, 7, []),
  (0, 8, []),
  (0, 7, []),
  (0, 7, []),
  (0, 10, []),
  (0, 10, []),
  (1, 10, []),
  (0, 39, []),
  (0, 39, [])]
def zSH (zn : Nat) : List zE := (4, zn, []) :: zSHr
theorem sh0 {zn : Nat} : (zSH zn)[0]? = some (4, zn, []) := rfl
theorem sh1 {zn : Nat} : (zSH zn)[1]? = some (5, 6, []) := rfl
theorem sh2 {zn : Nat} : (zSH zn)[2]? = some (4, 5, []) := rfl
theorem sh3 {zn : Nat} : (zSH zn)[3]? = some (4, 5, []) := rfl
theorem sh4 {zn : Nat} : (zSH zn)[4]? = some (4, 8, []) := rfl
theorem sh5 {zn : Nat} : (zSH zn)[5]? = some (3, 11, [some 6, some 11, some 26, some 34, some 37, some 43, some 49, some 55, some 59, some 62, some 67, some 73, some 84, none, none, none]) := rfl
theorem sh6 {zn : Nat} : (zSH zn)[6]? = some (2, 0, [some 7, some 9]) := rfl
theorem sh7 {zn : Nat} : (zSH zn)[7]? = some (3, 7, [some 8, none]) := rfl
theorem sh8 {zn : Nat} : (zSH zn)[8]? = some (0, 200, []) := rfl
theorem sh9 {zn : Nat} : (zSH zn)[9]? = some (3, 7, [some 10, none]) := rfl
theorem sh10 {zn : Nat} : (zSH zn)[10]? = some (0, 200, []) := rfl
theorem sh11 {zn : Nat} : (zSH zn)[11]? = some (2, 1, [some 12, some 19]) := rfl
theorem sh12 {zn : Nat} : (zSH zn)[12]? = some (3, 10, [some 13, some 14, some 15, some 16, some 17, some 18, none, none]) := rfl
theorem sh13 {zn : Nat} : (zSH zn)[13]? = some (0, 200, []) := rfl
theorem sh14 {zn : Nat} : (zSH zn)[14]? = some (0, 19, []) := rfl
theorem sh15 {zn : Nat} : (zSH zn)[15]? = some (0, 19, []) := rfl
theorem sh16 {zn : Nat} : (zSH zn)[16]? = some (0, 19, []) := rfl
theorem sh17 {zn : Nat} : (zSH zn)[17]? = some (0, 19, []) := rfl
theorem sh18 {zn : Nat} : (zSH zn)[18]? = some (0, 13, []) := rfl
theorem sh19 {zn : Nat} : (zSH zn)[19]? = some (3, 10, [some 20, some 21, some 22, some 23, some 24, some 25, none, none]) := rfl
theorem sh20 {zn : Nat} : (zSH zn)[20]? = some (0, 200, []) := rfl
theorem sh21 {zn : Nat} : (zSH zn)[21]? = some (0, 19, []) := rfl
theorem sh22 {zn : Nat} : (zSH zn)[22]? = some (0, 19, []) := rfl
theorem sh23 {zn : Nat} : (zSH zn)[23]? = some (0, 19, []) := rfl
theorem sh24 {zn : Nat} : (zSH zn)[24]? = some (0, 19, []) := rfl
theorem sh25 {zn : Nat} : (zSH zn)[25]? = some (0, 13, []) := rfl
theorem sh26 {zn : Nat} : (zSH zn)[26]? = some (3, 5, [some 27, none, none, none, none]) := rfl
theorem sh27 {zn : Nat} : (zSH zn)[27]? = some (3, 10, [some 28, some 29, some 30, some 31, some 32, some 33, none, none]) := rfl
theorem sh28 {zn : Nat} : (zSH zn)[28]? = some (0, 200, []) := rfl
theorem sh29 {zn : Nat} : (zSH zn)[29]? = some (0, 19, []) := rfl
theorem sh30 {zn : Nat} : (zSH zn)[30]? = some (0, 19, []) := rfl
theorem sh31 {zn : Nat} : (zSH zn)[31]? = some (0, 19, []) := rfl
theorem sh32 {zn : Nat} : (zSH zn)[32]? = some (0, 19, []) := rfl
theorem sh33 {zn : Nat} : (zSH zn)[33]? = some (0, 13, []) := rfl
theorem sh34 {zn : Nat} : (zSH zn)[34]? = some (3, 6, [some 35, some 36, none, none]) := rfl
theorem sh35 {zn : Nat} : (zSH zn)[35]? = some (0, 19, []) := rfl
theorem sh36 {zn : Nat} : (zSH zn)[36]? = some (0, 18, []) := rfl
theorem sh37 {zn : Nat} : (zSH zn)[37]? = some (3, 4, [some 38, some 39, some 40, some 41, some 42]) := rfl
theorem sh38 {zn : Nat} : (zSH zn)[38]? = some (1, 19, []) := rfl
theorem sh39 {zn : Nat} : (zSH zn)[39]? = some (1, 19, []) := rfl
theorem sh40 {zn : Nat} : (zSH zn)[40]? = some (1, 19, []) := rfl
theorem sh41 {zn : Nat} : (zSH zn)[41]? = some (1, 19, []) := rfl
theorem sh42 {zn : Nat} : (zSH zn)[42]? = some (1, 18, []) := rfl
theorem sh43 {zn : Nat} : (zSH zn)[43]? = some (3, 4, [some 44, some 45, some 46, some 47, some 48]) := rfl
theorem sh44 {zn : Nat} : (zSH zn)[44]? = some (1, 19, []) := rfl
theorem sh45 {zn : Nat} : (zSH zn)[45]? = some (1, 19, []) := rfl
theorem sh46 {zn : Nat} : (zSH zn)[46]? = some (1, 19, []) := rfl
theorem sh47 {zn : Nat} : (zSH zn)[47]? = some (1, 19, []) := rfl
theorem sh48 {zn : Nat} : (zSH zn)[48]? = some (1, 18, []) := rfl
theorem sh49 {zn : Nat} : (zSH zn)[49]? = some (3, 4, [some 50, some 51, some 52, some 53, some 54]) := rfl
theorem sh50 {zn : Nat} : (zSH zn)[50]? = some (1, 19, []) := rfl
theorem sh51 {zn : Nat} : (zSH zn)[51]? = some (1, 19, []) := rfl
theorem sh52 {zn : Nat} : (zSH zn)[52]? = some (1, 19, []) := rfl
theorem sh53 {zn : Nat} : (zSH zn)[53]? = some (1, 19, []) := rfl
theorem sh54 {zn : Nat} : (zSH zn)[54]? = some (1, 18, []) := rfl
theorem sh55 {zn : Nat} : (zSH zn)[55]? = some (3, 2, [some 56, some 57, some 58]) := rfl
theorem sh56 {zn : Nat} : (zSH zn)[56]? = some (0, 7, []) := rfl
theorem sh57 {zn : Nat} : (zSH zn)[57]? = some (0, 7, []) := rfl
theorem sh58 {zn : Nat} : (zSH zn)[58]? = some (0, 5, []) := rfl
theorem sh59 {zn : Nat} : (zSH zn)[59]? = some (3, 0, [some 60, some 61]) := rfl
theorem sh60 {zn : Nat} : (zSH zn)[60]? = some (0, 18, []) := rfl
theorem sh61 {zn : Nat} : (zSH zn)[61]? = some (0, 18, []) := rfl
theorem sh62 {zn : Nat} : (zSH zn)[62]? = some (3, 8, [some 63, some 64, some 65, some 66]) := rfl
theorem sh63 {zn : Nat} : (zSH zn)[63]? = some (0, 19, []) := rfl
theorem sh64 {zn : Nat} : (zSH zn)[64]? = some (0, 19, []) := rfl
theorem sh65 {zn : Nat} : (zSH zn)[65]? = some (0, 18, []) := rfl
theorem sh66 {zn : Nat} : (zSH zn)[66]? = some (0, 18, []) := rfl
theorem sh67 {zn : Nat} : (zSH zn)[67]? = some (3, 1, [some 68, some 69, none, none, some 70, none, none, some 71, some 72]) := rfl
theorem sh68 {zn : Nat} : (zSH zn)[68]? = some (0, 7, []) := rfl
theorem sh69 {zn : Nat} : (zSH zn)[69]? = some (0, 8, []) := rfl
theorem sh70 {zn : Nat} : (zSH zn)[70]? = some (0, 7, []) := rfl
theorem sh71 {zn : Nat} : (zSH zn)[71]? = some (0, 7, []) := rfl
theorem sh72 {zn : Nat} : (zSH zn)[72]? = some (0, 8, []) := rfl
theorem sh73 {zn : Nat} : (zSH zn)[73]? = some (3, 9, [some 74, some 75, none, some 76, some 77, some 83]) := rfl
theorem sh74 {zn : Nat} : (zSH zn)[74]? = some (0, 10, []) := rfl
theorem sh75 {zn : Nat} : (zSH zn)[75]? = some (0, 10, []) := rfl
theorem sh76 {zn : Nat} : (zSH zn)[76]? = some (1, 10, []) := rfl
theorem sh77 {zn : Nat} : (zSH zn)[77]? = some (3, 4, [some 78, some 79, some 80, some 81, some 82]) := rfl
theorem sh78 {zn : Nat} : (zSH zn)[78]? = some (1, 19, []) := rfl
theorem sh79 {zn : Nat} : (zSH zn)[79]? = some (1, 19, []) := rfl
theorem sh80 {zn : Nat} : (zSH zn)[80]? = some (1, 19, []) := rfl
theorem sh81 {zn : Nat} : (zSH zn)[81]? = some (1, 19, []) := rfl
theorem sh82 {zn : Nat} : (zSH zn)[82]? = some (1, 18, []) := rfl
theorem sh83 {zn : Nat} : (zSH zn)[83]? = some (1, 19, []) := rfl
theorem sh84 {zn : Nat} : (zSH zn)[84]? = some (2, 2, [some 85, some 100]) := rfl
theorem sh85 {zn : Nat} : (zSH zn)[85]? = some (3, 3, [some 86, some 93, none, none, none]) := rfl
theorem sh86 {zn : Nat} : (zSH zn)[86]? = some (3, 10, [some 87, some 88, some 89, some 90, some 91, some 92, none, none]) := rfl
theorem sh87 {zn : Nat} : (zSH zn)[87]? = some (0, 200, []) := rfl
theorem sh88 {zn : Nat} : (zSH zn)[88]? = some (0, 19, []) := rfl
theorem sh89 {zn : Nat} : (zSH zn)[89]? = some (0, 19, []) := rfl
theorem sh90 {zn : Nat} : (zSH zn)[90]? = some (0, 19, []) := rfl
theorem sh91 {zn : Nat} : (zSH zn)[91]? = some (0, 19, []) := rfl
theorem sh92 {zn : Nat} : (zSH zn)[92]? = some (0, 13, []) := rfl
theorem sh93 {zn : Nat} : (zSH zn)[93]? = some (3, 10, [some 94, some 95, some 96, some 97, some 98, some 99, none, none]) := rfl
theorem sh94 {zn : Nat} : (zSH zn)[94]? = some (0, 200, []) := rfl
theorem sh95 {zn : Nat} : (zSH zn)[95]? = some (0, 19, []) := rfl
theorem sh96 {zn : Nat} : (zSH zn)[96]? = some (0, 19, []) := rfl
theorem sh97 {zn : Nat} : (zSH zn)[97]? = some (0, 19, []) := rfl
theorem sh98 {zn : Nat} : (zSH zn)[98]? = some (0, 19, []) := rfl
theorem sh99 {zn : Nat} : (zSH zn)[99]? = some (0, 13, []) := rfl
theorem sh100 {zn : Nat} : (zSH zn)[100]? = some (3, 3, [some 101, some 108, none, none, none]) := rfl
theorem sh101 {zn : Nat} : (zSH zn)[101]? = some (3, 10, [some 102, some 103, some 104, some 105, some 106, some 107, none, none]) := rfl
theorem sh102 {zn : Nat} : (zSH zn)[102]? = some (0, 200, []) := rfl
theorem sh103 {zn : Nat} : (zSH zn)[103]? = some (0, 19, []) := rfl
theorem sh104 {zn : Nat} : (zSH zn)[104]? = some (0, 19, []) := rfl
theorem sh105 {zn : Nat} : (zSH zn)[105]? = some (0, 19, []) := rfl
theorem sh106 {zn : Nat} : (zSH zn)[106]? = some (0, 19, []) := rfl
theorem sh107 {zn : Nat} : (zSH zn)[107]? = some (0, 13, []) := rfl
theorem sh108 {zn : Nat} : (zSH zn)[108]? = some (3, 10, [some 109, some 110, some 111, some 112, some 113, some 114, none, none]) := rfl
theorem sh109 {zn : Nat} : (zSH zn)[109]? = some (0, 200, []) := rfl
theorem sh110 {zn : Nat} : (zSH zn)[110]? = some (0, 19, []) := rfl
theorem sh111 {zn : Nat} : (zSH zn)[111]? = some (0, 19, []) := rfl
theorem sh112 {zn : Nat} : (zSH zn)[112]? = some (0, 19, []) := rfl
theorem sh113 {zn : Nat} : (zSH zn)[113]? = some (0, 19, []) := rfl
theorem sh114 {zn : Nat} : (zSH zn)[114]? = some (0, 13, []) := rfl
theorem sh115 {zn : Nat} : (zSH zn)[115]? = some (3, 12, [some 116, some 117, some 118, some 119, some 120, some 121, some 122, some 123, some 124, some 125, some 126, none, none, some 127, some 128, some 129, some 130, some 131, none, none, some 132, some 133, some 134, some 135, some 136, some 137, some 138, none, some 139, none, some 140, some 141, some 142, none, some 143, some 144, some 145, none, some 146, some 147]) := rfl
theorem sh116 {zn : Nat} : (zSH zn)[116]? = some (0, 400, []) := rfl
theorem sh117 {zn : Nat} : (zSH zn)[117]? = some (0, 2, []) := rfl
theorem sh118 {zn : Nat} : (zSH zn)[118]? = some (0, 1400, []) := rfl
theorem sh119 {zn : Nat} : (zSH zn)[119]? = some (0, 133, []) := rfl
theorem sh120 {zn : Nat} : (zSH zn)[120]? = some (0, 133, []) := rfl
theorem sh121 {zn : Nat} : (zSH zn)[121]? = some (0, 7, []) := rfl
theorem sh122 {zn : Nat} : (zSH zn)[122]? = some (0, 63, []) := rfl
theorem sh123 {zn : Nat} : (zSH zn)[123]? = some (0, 7, []) := rfl
theorem sh124 {zn : Nat} : (zSH zn)[124]? = some (0, 12, []) := rfl
theorem sh125 {zn : Nat} : (zSH zn)[125]? = some (0, 3, []) := rfl
theorem sh126 {zn : Nat} : (zSH zn)[126]? = some (0, 3, []) := rfl
theorem sh127 {zn : Nat} : (zSH zn)[127]? = some (0, 7, []) := rfl
theorem sh128 {zn : Nat} : (zSH zn)[128]? = some (0, 7, []) := rfl
theorem sh129 {zn : Nat} : (zSH zn)[129]? = some (0, 5, []) := rfl
theorem sh130 {zn : Nat} : (zSH zn)[130]? = some (0, 19, []) := rfl
theorem sh131 {zn : Nat} : (zSH zn)[131]? = some (0, 10, []) := rfl
theorem sh132 {zn : Nat} : (zSH zn)[132]? = some (0, 19, []) := rfl
theorem sh133 {zn : Nat} : (zSH zn)[133]? = some (0, 10, []) := rfl
theorem sh134 {zn : Nat} : (zSH zn)[134]? = some (0, 10, []) := rfl
theorem sh135 {zn : Nat} : (zSH zn)[135]? = some (0, 19, []) := rfl
theorem sh136 {zn : Nat} : (zSH zn)[136]? = some (0, 19, []) := rfl
theorem sh137 {zn : Nat} : (zSH zn)[137]? = some (0, 10, []) := rfl
theorem sh138 {zn : Nat} : (zSH zn)[138]? = some (0, 10, []) := rfl
theorem sh139 {zn : Nat} : (zSH zn)[139]? = some (0, 7, []) := rfl
theorem sh140 {zn : Nat} : (zSH zn)[140]? = some (0, 8, []) := rfl
theorem sh141 {zn : Nat} : (zSH zn)[141]? = some (0, 7, []) := rfl
theorem sh142 {zn : Nat} : (zSH zn)[142]? = some (0, 7, []) := rfl
theorem sh143 {zn : Nat} : (zSH zn)[143]? = some (0, 10, []) := rfl
theorem sh144 {zn : Nat} : (zSH zn)[144]? = some (0, 10, []) := rfl
theorem sh145 {zn : Nat} : (zSH zn)[145]? = some (1, 10, []) := rfl
theorem sh146 {zn : Nat} : (zSH zn)[146]? = some (0, 39, []) := rfl
theorem sh147 {zn : Nat} : (zSH zn)[147]? = some (0, 39, []) := rfl
abbrev zLM (zn : Nat) : Nat × Nat := ((zSH zn).length, zcost (zSH zn))
def isX3 (k : Nat) : Prop := k ∈ ([85, 100] : List Nat)
def isX4 (k : Nat) : Prop := k ∈ ([37, 43, 49, 77] : List Nat)
def isX7 (k : Nat) : Prop := k ∈ ([7, 9] : List Nat)
def isX10 (k : Nat) : Prop := k ∈ ([12, 19, 27, 86, 93, 101, 108] : List Nat)
theorem isX3_85 : isX3 85 := by unfold isX3; decide
theorem isX3_100 : isX3 100 := by unfold isX3; decide
theorem isX3_c {k : Nat} (h : isX3 k) : k = 85 ∨ k = 100 := by simpa [isX3] using h
theorem shX3 {zn k : Nat} (h : isX3 k) : (zSH zn)[k]? = some (3, 3, [some (k + 1), some (k + 8), none, none, none]) := by rcases isX3_c h with rfl | rfl <;> rfl
theorem geX3 {k : Nat} (h : isX3 k) : 5 ≤ k := by rcases isX3_c h with rfl | rfl <;> decide
theorem isX3_f0 {k : Nat} (h : isX3 k) : isX10 (k + 1) := by rcases isX3_c h with rfl | rfl <;> (unfold isX10; decide)
theorem isX3_f1 {k : Nat} (h : isX3 k) : isX10 (k + 8) := by rcases isX3_c h with rfl | rfl <;> (unfold isX10; decide)
theorem isX4_37 : isX4 37 := by unfold isX4; decide
theorem isX4_43 : isX4 43 := by unfold isX4; decide
theorem isX4_49 : isX4 49 := by unfold isX4; decide
theorem isX4_77 : isX4 77 := by unfold isX4; decide
theorem isX4_c {k : Nat} (h : isX4 k) : k = 37 ∨ k = 43 ∨ k = 49 ∨ k = 77 := by simpa [isX4] using h
theorem shX4 {zn k : Nat} (h : isX4 k) : (zSH zn)[k]? = some (3, 4, [some (k + 1), some (k + 2), some (k + 3), some (k + 4), some (k + 5)]) := by rcases isX4_c h with rfl | rfl | rfl | rfl <;> rfl
theorem geX4 {k : Nat} (h : isX4 k) : 5 ≤ k := by rcases isX4_c h with rfl | rfl | rfl | rfl <;> decide
theorem shX4_0 {zn k : Nat} (h : isX4 k) : (zSH zn)[k + 1]? = some (1, 19, []) := by rcases isX4_c h with rfl | rfl | rfl | rfl <;> rfl
theorem geX4_0 {k : Nat} (h : isX4 k) : 5 ≤ k + 1 := Nat.le_trans (geX4 h) (Nat.le_add_right _ _)
theorem shX4_1 {zn k : Nat} (h : isX4 k) : (zSH zn)[k + 2]? = some (1, 19, []) := by rcases isX4_c h with rfl | rfl | rfl | rfl <;> rfl
theorem geX4_1 {k : Nat} (h : isX4 k) : 5 ≤ k + 2 := Nat.le_trans (geX4 h) (Nat.le_add_right _ _)
theorem shX4_2 {zn k : Nat} (h : isX4 k) : (zSH zn)[k + 3]? = some (1, 19, []) := by rcases isX4_c h with rfl | rfl | rfl | rfl <;> rfl
theorem geX4_2 {k : Nat} (h : isX4 k) : 5 ≤ k + 3 := Nat.le_trans (geX4 h) (Nat.le_add_right _ _)
theorem shX4_3 {zn k : Nat} (h : isX4 k) : (zSH zn)[k + 4]? = some (1, 19, []) := by rcases isX4_c h with rfl | rfl | rfl | rfl <;> rfl
theorem geX4_3 {k : Nat} (h : isX4 k) : 5 ≤ k + 4 := Nat.le_trans (geX4 h) (Nat.le_add_right _ _)
theorem shX4_4 {zn k : Nat} (h : isX4 k) : (zSH zn)[k + 5]? = some (1, 18, []) := by rcases isX4_c h with rfl | rfl | rfl | rfl <;> rfl
theorem geX4_4 {k : Nat} (h : isX4 k) : 5 ≤ k + 5 := Nat.le_trans (geX4 h) (Nat.le_add_right _ _)
theorem isX7_7 : isX7 7 := by unfold isX7; decide
theorem isX7_9 : isX7 9 := by unfold isX7; decide
theorem isX7_c {k : Nat} (h : isX7 k) : k = 7 ∨ k = 9 := by simpa [isX7] using h
theorem shX7 {zn k : Nat} (h : isX7 k) : (zSH zn)[k]? = some (3, 7, [some (k + 1), none]) := by rcases isX7_c h with rfl | rfl <;> rfl
theorem geX7 {k : Nat} (h : isX7 k) : 5 ≤ k := by rcases isX7_c h with rfl | rfl <;> decide
theorem shX7_0 {zn k : Nat} (h : isX7 k) : (zSH zn)[k + 1]? = some (0, 200, []) := by rcases isX7_c h with rfl | rfl <;> rfl
theorem geX7_0 {k : Nat} (h : isX7 k) : 5 ≤ k + 1 := Nat.le_trans (geX7 h) (Nat.le_add_right _ _)
theorem isX10_12 : isX10 12 := by unfold isX10; decide
theorem isX10_19 : isX10 19 := by unfold isX10; decide
theorem isX10_27 : isX10 27 := by unfold isX10; decide
theorem isX10_86 : isX10 86 := by unfold isX10; decide
theorem isX10_93 : isX10 93 := by unfold isX10; decide
theorem isX10_101 : isX10 101 := by unfold isX10; decide
theorem isX10_108 : isX10 108 := by unfold isX10; decide
theorem isX10_c {k : Nat} (h : isX10 k) : k = 12 ∨ k = 19 ∨ k = 27 ∨ k = 86 ∨ k = 93 ∨ k = 101 ∨ k = 108 := by simpa [isX10] using h
theorem shX10 {zn k : Nat} (h : isX10 k) : (zSH zn)[k]? = some (3, 10, [some (k + 1), some (k + 2), some (k + 3), some (k + 4), some (k + 5), some (k + 6), none, none]) := by rcases isX10_c h with rfl | rfl | rfl | rfl | rfl | rfl | rfl <;> rfl
theorem geX10 {k : Nat} (h : isX10 k) : 5 ≤ k := by rcases isX10_c h with rfl | rfl | rfl | rfl | rfl | rfl | rfl <;> decide
theorem shX10_0 {zn k : Nat} (h : isX10 k) : (zSH zn)[k + 1]? = some (0, 200, []) := by rcases isX10_c h with rfl | rfl | rfl | rfl | rfl | rfl | rfl <;> rfl
theorem geX10_0 {k : Nat} (h : isX10 k) : 5 ≤ k + 1 := Nat.le_trans (geX10 h) (Nat.le_add_right _ _)
theorem shX10_1 {zn k : Nat} (h : isX10 k) : (zSH zn)[k + 2]? = some (0, 19, []) := by rcases isX10_c h with rfl | rfl | rfl | rfl | rfl | rfl | rfl <;> rfl
theorem geX10_1 {k : Nat} (h : isX10 k) : 5 ≤ k + 2 := Nat.le_trans (geX10 h) (Nat.le_add_right _ _)
theorem shX10_2 {zn k : Nat} (h : isX10 k) : (zSH zn)[k + 3]? = some (0, 19, []) := by rcases isX10_c h with rfl | rfl | rfl | rfl | rfl | rfl | rfl <;> rfl
theorem geX10_2 {k : Nat} (h : isX10 k) : 5 ≤ k + 3 := Nat.le_trans (geX10 h) (Nat.le_add_right _ _)
theorem shX10_3 {zn k : Nat} (h : isX10 k) : (zSH zn)[k + 4]? = some (0, 19, []) := by rcases isX10_c h with rfl | rfl | rfl | rfl | rfl | rfl | rfl <;> rfl
theorem geX10_3 {k : Nat} (h : isX10 k) : 5 ≤ k + 4 := Nat.le_trans (geX10 h) (Nat.le_add_right _ _)
theorem shX10_4 {zn k : Nat} (h : isX10 k) : (zSH zn)[k + 5]? = some (0, 19, []) := by rcases isX10_c h with rfl | rfl | rfl | rfl | rfl | rfl | rfl <;> rfl
theorem geX10_4 {k : Nat} (h : isX10 k) : 5 ≤ k + 5 := Nat.le_trans (geX10 h) (Nat.le_add_right _ _)
theorem shX10_5 {zn k : Nat} (h : isX10 k) : (zSH zn)[k + 6]? = some (0, 13, []) := by rcases isX10_c h with rfl | rfl | rfl | rfl | rfl | rfl | rfl <;> rfl
theorem geX10_5 {k : Nat} (h : isX10 k) : 5 ≤ k + 6 := Nat.le_trans (geX10 h) (Nat.le_add_right _ _)
theorem ar6 {i : Int32} (h : vp_in i 2) : isX7 (7 + 2 * i.toNatClampNeg) := by
  have h1 : i.toNatClampNeg < 2 := Nat.not_le.mp fun q => h (Or.inr q)
  unfold isX7
  rcases (show i.toNatClampNeg = 0 ∨ i.toNatClampNeg = 1 by omega) with e | e <;> rw [e] <;> decide
theorem ae6 {i : Int32} (h : vp_in i 2) : ([some 7, some 9] : List (Option Nat))[i.toNatClampNeg]? = some (some (7 + 2 * i.toNatClampNeg)) := by
  have h1 : i.toNatClampNeg < 2 := Nat.not_le.mp fun q => h (Or.inr q)
  rcases (show i.toNatClampNeg = 0 ∨ i.toNatClampNeg = 1 by omega) with e | e <;> rw [e] <;> rfl
theorem ar11 {i : Int32} (h : vp_in i 2) : isX10 (12 + 7 * i.toNatClampNeg) := by
  have h1 : i.toNatClampNeg < 2 := Nat.not_le.mp fun q => h (Or.inr q)
  unfold isX10
  rcases (show i.toNatClampNeg = 0 ∨ i.toNatClampNeg = 1 by omega) with e | e <;> rw [e] <;> decide
theorem ae11 {i : Int32} (h : vp_in i 2) : ([some 12, some 19] : List (Option Nat))[i.toNatClampNeg]? = some (some (12 + 7 * i.toNatClampNeg)) := by
  have h1 : i.toNatClampNeg < 2 := Nat.not_le.mp fun q => h (Or.inr q)
  rcases (show i.toNatClampNeg = 0 ∨ i.toNatClampNeg = 1 by omega) with e | e <;> rw [e] <;> rfl
theorem ar84 {i : Int32} (h : vp_in i 2) : isX3 (85 + 15 * i.toNatClampNeg) := by
  have h1 : i.toNatClampNeg < 2 := Nat.not_le.mp fun q => h (Or.inr q)
  unfold isX3
  rcases (show i.toNatClampNeg = 0 ∨ i.toNatClampNeg = 1 by omega) with e | e <;> rw [e] <;> decide
theorem ae84 {i : Int32} (h : vp_in i 2) : ([some 85, some 100] : List (Option Nat))[i.toNatClampNeg]? = some (some (85 + 15 * i.toNatClampNeg)) := by
  have h1 : i.toNatClampNeg < 2 := Nat.not_le.mp fun q => h (Or.inr q)
  rcases (show i.toNatClampNeg = 0 ∨ i.toNatClampNeg = 1 by omega) with e | e <;> rw [e] <;> rfl
set_option maxRecDepth 20000 in
theorem zmt0 : zty[0]? = some (yX0_init, cX0_init, 1, none) := rfl
set_option maxRecDepth 20000 in
theorem zmc0 : zcd[0]? = some (true, true, kX0_init) := rfl
set_option maxRecDepth 20000 in
theorem zmt1 : zty[1]? = some (yX0_ofAll, cX0_ofAll, 5, (some .int)) := rfl
set_option maxRecDepth 20000 in
theorem zmc1 : zcd[1]? = some (false, false, kX0_ofAll) := rfl
set_option maxRecDepth 20000 in
theorem zmt2 : zty[2]? = some (yX0_ofLine, cX0_ofLine, 6, (some .int)) := rfl
set_option maxRecDepth 20000 in
theorem zmc2 : zcd[2]? = some (false, false, kX0_ofLine) := rfl
set_option maxRecDepth 20000 in
theorem zmt3 : zty[3]? = some (yX0_coverToken, cX0_coverToken, 8, none) := rfl
set_option maxRecDepth 20000 in
theorem zmc3 : zcd[3]? = some (false, false, kX0_coverToken) := rfl
set_option maxRecDepth 20000 in
theorem zmt4 : zty[4]? = some (yX0_put, cX0_put, 4, none) := rfl
set_option maxRecDepth 20000 in
theorem zmc4 : zcd[4]? = some (false, false, kX0_put) := rfl
set_option maxRecDepth 20000 in
theorem zmt5 : zty[5]? = some (yX1_init, cX1_init, 1, none) := rfl
set_option maxRecDepth 20000 in
theorem zmc5 : zcd[5]? = some (true, true, kX1_init) := rfl
set_option maxRecDepth 20000 in
theorem zmt6 : zty[6]? = some (yX1_addBlock, cX1_addBlock, 1, (some .int)) := rfl
set_option maxRecDepth 20000 in
theorem zmc6 : zcd[6]? = some (false, false, kX1_addBlock) := rfl
set_option maxRecDepth 20000 in
theorem zmt7 : zty[7]? = some (yX1_areBlocks, cX1_areBlocks, 2, (some .boolean)) := rfl
set_option maxRecDepth 20000 in
theorem zmc7 : zcd[7]? = some (false, false, kX1_areBlocks) := rfl
set_option maxRecDepth 20000 in
theorem zmt8 : zty[8]? = some (yX1_addNet, cX1_addNet, 2, (some .int)) := rfl
set_option maxRecDepth 20000 in
theorem zmc8 : zcd[8]? = some (false, false, kX1_addNet) := rfl
set_option maxRecDepth 20000 in
theorem zmt9 : zty[9]? = some (yX1_move, cX1_move, 4, (some .int)) := rfl
set_option maxRecDepth 20000 in
theorem zmc9 : zcd[9]? = some (false, false, kX1_move) := rfl
set_option maxRecDepth 20000 in
theorem zmt10 : zty[10]? = some (yX1_placesOf, cX1_placesOf, 4, (some .int)) := rfl
set_option maxRecDepth 20000 in
theorem zmc10 : zcd[10]? = some (false, false, kX1_placesOf) := rfl
set_option maxRecDepth 20000 in
theorem zmt11 : zty[11]? = some (yX1_wireOf, cX1_wireOf, 2, (some .int)) := rfl
set_option maxRecDepth 20000 in
theorem zmc11 : zcd[11]? = some (false, false, kX1_wireOf) := rfl
set_option maxRecDepth 20000 in
theorem zmt12 : zty[12]? = some (yX1_wireOfAll, cX1_wireOfAll, 3, (some .int)) := rfl
set_option maxRecDepth 20000 in
theorem zmc12 : zcd[12]? = some (false, false, kX1_wireOfAll) := rfl
set_option maxRecDepth 20000 in
theorem zmt13 : zty[13]? = some (yX1_span, cX1_span, 6, (some .int)) := rfl
set_option maxRecDepth 20000 in
theorem zmc13 : zcd[13]? = some (false, false, kX1_span) := rfl
set_option maxRecDepth 20000 in
theorem zmt14 : zty[14]? = some (yX1_findLeast, cX1_findLeast, 1, none) := rfl
set_option maxRecDepth 20000 in
theorem zmc14 : zcd[14]? = some (false, false, kX1_findLeast) := rfl
set_option maxRecDepth 20000 in
theorem zmt15 : zty[15]? = some (yX1_layFrom, cX1_layFrom, 5, none) := rfl
set_option maxRecDepth 20000 in
theorem zmc15 : zcd[15]? = some (false, false, kX1_layFrom) := rfl
set_option maxRecDepth 20000 in
theorem zmt16 : zty[16]? = some (yX1_turnNetPlaces, cX1_turnNetPlaces, 4, none) := rfl
set_option maxRecDepth 20000 in
theorem zmc16 : zcd[16]? = some (false, false, kX1_turnNetPlaces) := rfl
set_option maxRecDepth 20000 in
theorem zmt17 : zty[17]? = some (yX1_wireToCome, cX1_wireToCome, 3, (some .int)) := rfl
set_option maxRecDepth 20000 in
theorem zmc17 : zcd[17]? = some (false, false, kX1_wireToCome) := rfl
set_option maxRecDepth 20000 in
theorem zmt18 : zty[18]? = some (yX1_swapWhileItHelps, cX1_swapWhileItHelps, 2, (some .int)) := rfl
set_option maxRecDepth 20000 in
theorem zmc18 : zcd[18]? = some (false, false, kX1_swapWhileItHelps) := rfl
set_option maxRecDepth 20000 in
theorem zmt19 : zty[19]? = some (yX1_swapBest, cX1_swapBest, 7, (some .boolean)) := rfl
set_option maxRecDepth 20000 in
theorem zmc19 : zcd[19]? = some (false, false, kX1_swapBest) := rfl
set_option maxRecDepth 20000 in
theorem zmt20 : zty[20]? = some (yX1_exchange, cX1_exchange, 4, none) := rfl
set_option maxRecDepth 20000 in
theorem zmc20 : zcd[20]? = some (false, false, kX1_exchange) := rfl
set_option maxRecDepth 20000 in
theorem zmt21 : zty[21]? = some (yX2_init, cX2_init, 1, none) := rfl
set_option maxRecDepth 20000 in
theorem zmc21 : zcd[21]? = some (true, true, kX2_init) := rfl
set_option maxRecDepth 20000 in
theorem zmt22 : zty[22]? = some (yX2_isRule, cX2_isRule, 2, (some .boolean)) := rfl
set_option maxRecDepth 20000 in
theorem zmc22 : zcd[22]? = some (false, false, kX2_isRule) := rfl
set_option maxRecDepth 20000 in
theorem zmt23 : zty[23]? = some (yX2_changeRule, cX2_changeRule, 4, (some .int)) := rfl
set_option maxRecDepth 20000 in
theorem zmc23 : zcd[23]? = some (false, false, kX2_changeRule) := rfl
set_option maxRecDepth 20000 in
theorem zmt24 : zty[24]? = some (yX2_load, cX2_load, 1, (some .int)) := rfl
set_option maxRecDepth 20000 in
theorem zmc24 : zcd[24]? = some (false, false, kX2_load) := rfl
set_option maxRecDepth 20000 in
theorem zmt25 : zty[25]? = some (yX2_clock, cX2_clock, 1, (some .int)) := rfl
set_option maxRecDepth 20000 in
theorem zmc25 : zcd[25]? = some (false, false, kX2_clock) := rfl
set_option maxRecDepth 20000 in
theorem zmt26 : zty[26]? = some (yX2_takes, cX2_takes, 3, (some .int)) := rfl
set_option maxRecDepth 20000 in
theorem zmc26 : zcd[26]? = some (false, false, kX2_takes) := rfl
set_option maxRecDepth 20000 in
theorem zmt27 : zty[27]? = some (yX2_gateFor, cX2_gateFor, 1, (some .int)) := rfl
set_option maxRecDepth 20000 in
theorem zmc27 : zcd[27]? = some (false, false, kX2_gateFor) := rfl
set_option maxRecDepth 20000 in
theorem zmt28 : zty[28]? = some (yX3_init, cX3_init, 1, none) := rfl
set_option maxRecDepth 20000 in
theorem zmc28 : zcd[28]? = some (true, true, kX3_init) := rfl
set_option maxRecDepth 20000 in
theorem zmt29 : zty[29]? = some (yX4_init, cX4_init, 1, none) := rfl
set_option maxRecDepth 20000 in
theorem zmc29 : zcd[29]? = some (true, true, kX4_init) := rfl
set_option maxRecDepth 20000 in
theorem zmt30 : zty[30]? = some (yX4_stickOne, cX4_stickOne, 3, none) := rfl
set_option maxRecDepth 20000 in
theorem zmc30 : zcd[30]? = some (false, false, kX4_stickOne) := rfl
set_option maxRecDepth 20000 in
theorem zmt31 : zty[31]? = some (yX4_stickEachInItsLane, cX4_stickEachInItsLane, 2, none) := rfl
set_option maxRecDepth 20000 in
theorem zmc31 : zcd[31]? = some (true, false, kX4_stickEachInItsLane) := rfl
set_option maxRecDepth 20000 in
theorem zmt32 : zty[32]? = some (yX4_runState, cX4_runState, 4, none) := rfl
set_option maxRecDepth 20000 in
theorem zmc32 : zcd[32]? = some (false, false, kX4_runState) := rfl
set_option maxRecDepth 20000 in
theorem zmt33 : zty[33]? = some (yX4_runRow, cX4_runRow, 4, none) := rfl
set_option maxRecDepth 20000 in
theorem zmc33 : zcd[33]? = some (false, false, kX4_runRow) := rfl
set_option maxRecDepth 20000 in
theorem zmt34 : zty[34]? = some (yX4_inAllLanes, cX4_inAllLanes, 1, (some .long)) := rfl
set_option maxRecDepth 20000 in
theorem zmc34 : zcd[34]? = some (false, false, kX4_inAllLanes) := rfl
set_option maxRecDepth 20000 in
theorem zmt35 : zty[35]? = some (yX4_run, cX4_run, 6, none) := rfl
set_option maxRecDepth 20000 in
theorem zmc35 : zcd[35]? = some (false, false, kX4_run) := rfl
set_option maxRecDepth 20000 in
theorem zmt36 : zty[36]? = some (yX4_stuck, cX4_stuck, 4, (some .long)) := rfl
set_option maxRecDepth 20000 in
theorem zmc36 : zcd[36]? = some (false, false, kX4_stuck) := rfl
set_option maxRecDepth 20000 in
theorem zmt37 : zty[37]? = some (yX4_make, cX4_make, 6, (some .long)) := rfl
set_option maxRecDepth 20000 in
theorem zmc37 : zcd[37]? = some (false, false, kX4_make) := rfl
set_option maxRecDepth 20000 in
theorem zmt38 : zty[38]? = some (yX4_gateOf, cX4_gateOf, 7, (some .long)) := rfl
set_option maxRecDepth 20000 in
theorem zmc38 : zcd[38]? = some (false, false, kX4_gateOf) := rfl
set_option maxRecDepth 20000 in
theorem zmt39 : zty[39]? = some (yX4_unlike, cX4_unlike, 6, (some .long)) := rfl
set_option maxRecDepth 20000 in
theorem zmc39 : zcd[39]? = some (false, false, kX4_unlike) := rfl
set_option maxRecDepth 20000 in
theorem zmt40 : zty[40]? = some (yX4_statesFrom, cX4_statesFrom, 8, (some .int)) := rfl
set_option maxRecDepth 20000 in
theorem zmc40 : zcd[40]? = some (false, false, kX4_statesFrom) := rfl
set_option maxRecDepth 20000 in
theorem zmt41 : zty[41]? = some (yX4_statesShown, cX4_statesShown, 6, (some .int)) := rfl
set_option maxRecDepth 20000 in
theorem zmc41 : zcd[41]? = some (false, false, kX4_statesShown) := rfl
set_option maxRecDepth 20000 in
theorem zmt42 : zty[42]? = some (yX5_init, cX5_init, 1, none) := rfl
set_option maxRecDepth 20000 in
theorem zmc42 : zcd[42]? = some (true, true, kX5_init) := rfl
set_option maxRecDepth 20000 in
theorem zmt43 : zty[43]? = some (yX5_read, cX5_read, 3, (some .int)) := rfl
set_option maxRecDepth 20000 in
theorem zmc43 : zcd[43]? = some (false, false, kX5_read) := rfl
set_option maxRecDepth 20000 in
theorem zmt44 : zty[44]? = some (yX5_readsSound, cX5_readsSound, 2, (some .boolean)) := rfl
set_option maxRecDepth 20000 in
theorem zmc44 : zcd[44]? = some (false, false, kX5_readsSound) := rfl
set_option maxRecDepth 20000 in
theorem zmt45 : zty[45]? = some (yX5_takes, cX5_takes, 2, (some .boolean)) := rfl
set_option maxRecDepth 20000 in
theorem zmc45 : zcd[45]? = some (false, false, kX5_takes) := rfl
set_option maxRecDepth 20000 in
theorem zmt46 : zty[46]? = some (yX5_takesLetter, cX5_takesLetter, 2, (some .boolean)) := rfl
set_option maxRecDepth 20000 in
theorem zmc46 : zcd[46]? = some (false, false, kX5_takesLetter) := rfl
set_option maxRecDepth 20000 in
theorem zmt47 : zty[47]? = some (yX5_takesEnd, cX5_takesEnd, 1, (some .boolean)) := rfl
set_option maxRecDepth 20000 in
theorem zmc47 : zcd[47]? = some (false, false, kX5_takesEnd) := rfl
set_option maxRecDepth 20000 in
theorem zmt48 : zty[48]? = some (yX5_takesToken, cX5_takesToken, 3, (some .boolean)) := rfl
set_option maxRecDepth 20000 in
theorem zmc48 : zcd[48]? = some (false, false, kX5_takesToken) := rfl
set_option maxRecDepth 20000 in
theorem zmt49 : zty[49]? = some (yX5_valuesTaken, cX5_valuesTaken, 1, (some .int)) := rfl
set_option maxRecDepth 20000 in
theorem zmc49 : zcd[49]? = some (false, false, kX5_valuesTaken) := rfl
set_option maxRecDepth 20000 in
theorem zmt50 : zty[50]? = some (yX5_kindOfSign, cX5_kindOfSign, 1, (some .int)) := rfl
set_option maxRecDepth 20000 in
theorem zmc50 : zcd[50]? = some (false, false, kX5_kindOfSign) := rfl
set_option maxRecDepth 20000 in
theorem zmt51 : zty[51]? = some (yX6_init, cX6_init, 1, none) := rfl
set_option maxRecDepth 20000 in
theorem zmc51 : zcd[51]? = some (true, true, kX6_init) := rfl
set_option maxRecDepth 20000 in
theorem zmt52 : zty[52]? = some (yX6_areRegisters, cX6_areRegisters, 1, (some .boolean)) := rfl
set_option maxRecDepth 20000 in
theorem zmc52 : zcd[52]? = some (false, false, kX6_areRegisters) := rfl
set_option maxRecDepth 20000 in
theorem zmt53 : zty[53]? = some (yX6_restart, cX6_restart, 1, none) := rfl
set_option maxRecDepth 20000 in
theorem zmc53 : zcd[53]? = some (false, false, kX6_restart) := rfl
set_option maxRecDepth 20000 in
theorem zmt54 : zty[54]? = some (yX6_take, cX6_take, 8, (some .int)) := rfl
set_option maxRecDepth 20000 in
theorem zmc54 : zcd[54]? = some (false, false, kX6_take) := rfl
set_option maxRecDepth 20000 in
theorem zmt55 : zty[55]? = some (yX6_make, cX6_make, 6, (some .int)) := rfl
set_option maxRecDepth 20000 in
theorem zmc55 : zcd[55]? = some (false, false, kX6_make) := rfl
set_option maxRecDepth 20000 in
theorem zmt56 : zty[56]? = some (yX6_gateOf, cX6_gateOf, 4, (some .int)) := rfl
set_option maxRecDepth 20000 in
theorem zmc56 : zcd[56]? = some (false, false, kX6_gateOf) := rfl
set_option maxRecDepth 20000 in
theorem zmt57 : zty[57]? = some (yX6_turned, cX6_turned, 1, (some .int)) := rfl
set_option maxRecDepth 20000 in
theorem zmc57 : zcd[57]? = some (false, false, kX6_turned) := rfl
set_option maxRecDepth 20000 in
theorem zmt58 : zty[58]? = some (yX6_both, cX6_both, 2, (some .int)) := rfl
set_option maxRecDepth 20000 in
theorem zmc58 : zcd[58]? = some (false, false, kX6_both) := rfl
set_option maxRecDepth 20000 in
theorem zmt59 : zty[59]? = some (yX6_chosen, cX6_chosen, 3, (some .int)) := rfl
set_option maxRecDepth 20000 in
theorem zmc59 : zcd[59]? = some (false, false, kX6_chosen) := rfl
set_option maxRecDepth 20000 in
theorem zmt60 : zty[60]? = some (yX7_init, cX7_init, 1, none) := rfl
set_option maxRecDepth 20000 in
theorem zmc60 : zcd[60]? = some (true, true, kX7_init) := rfl
set_option maxRecDepth 20000 in
theorem zmt61 : zty[61]? = some (yX7_append, cX7_append, 5, (some .int)) := rfl
set_option maxRecDepth 20000 in
theorem zmc61 : zcd[61]? = some (false, false, kX7_append) := rfl
set_option maxRecDepth 20000 in
theorem zmt62 : zty[62]? = some (yX8_init, cX8_init, 1, none) := rfl
set_option maxRecDepth 20000 in
theorem zmc62 : zcd[62]? = some (true, true, kX8_init) := rfl
set_option maxRecDepth 20000 in
theorem zmt63 : zty[63]? = some (yX8_find, cX8_find, 6, none) := rfl
set_option maxRecDepth 20000 in
theorem zmc63 : zcd[63]? = some (false, false, kX8_find) := rfl
set_option maxRecDepth 20000 in
theorem zmt64 : zty[64]? = some (yX8_findLine, cX8_findLine, 8, none) := rfl
set_option maxRecDepth 20000 in
theorem zmc64 : zcd[64]? = some (false, false, kX8_findLine) := rfl
set_option maxRecDepth 20000 in
theorem zmt65 : zty[65]? = some (yX8_takeLatest, cX8_takeLatest, 5, none) := rfl
set_option maxRecDepth 20000 in
theorem zmc65 : zcd[65]? = some (false, false, kX8_takeLatest) := rfl
set_option maxRecDepth 20000 in
theorem zmt66 : zty[66]? = some (yX8_latest, cX8_latest, 4, (some .int)) := rfl
set_option maxRecDepth 20000 in
theorem zmc66 : zcd[66]? = some (false, false, kX8_latest) := rfl
set_option maxRecDepth 20000 in
theorem zmt67 : zty[67]? = some (yX8_nameOnWay, cX8_nameOnWay, 6, (some .int)) := rfl
set_option maxRecDepth 20000 in
theorem zmc67 : zcd[67]? = some (false, false, kX8_nameOnWay) := rfl
set_option maxRecDepth 20000 in
theorem zmt68 : zty[68]? = some (yX9_init, cX9_init, 1, none) := rfl
set_option maxRecDepth 20000 in
theorem zmc68 : zcd[68]? = some (true, true, kX9_init) := rfl
set_option maxRecDepth 20000 in
theorem zmt69 : zty[69]? = some (yX9_add, cX9_add, 2, (some .int)) := rfl
set_option maxRecDepth 20000 in
theorem zmc69 : zcd[69]? = some (false, false, kX9_add) := rfl
set_option maxRecDepth 20000 in
theorem zmt70 : zty[70]? = some (yX9_make, cX9_make, 8, none) := rfl
set_option maxRecDepth 20000 in
theorem zmc70 : zcd[70]? = some (false, false, kX9_make) := rfl
set_option maxRecDepth 20000 in
theorem zmt71 : zty[71]? = some (yX9_failsOf, cX9_failsOf, 4, (some .int)) := rfl
set_option maxRecDepth 20000 in
theorem zmc71 : zcd[71]? = some (false, false, kX9_failsOf) := rfl
set_option maxRecDepth 20000 in
theorem zmt72 : zty[72]? = some (yX9_lanesFailing, cX9_lanesFailing, 5, (some .long)) := rfl
set_option maxRecDepth 20000 in
theorem zmc72 : zcd[72]? = some (false, false, kX9_lanesFailing) := rfl
set_option maxRecDepth 20000 in
theorem zmt73 : zty[73]? = some (yX9_findAll, cX9_findAll, 6, (some .long)) := rfl
set_option maxRecDepth 20000 in
theorem zmc73 : zcd[73]? = some (false, false, kX9_findAll) := rfl
set_option maxRecDepth 20000 in
theorem zmt74 : zty[74]? = some (yX9_leastSet, cX9_leastSet, 5, (some .int)) := rfl
set_option maxRecDepth 20000 in
theorem zmc74 : zcd[74]? = some (false, false, kX9_leastSet) := rfl
set_option maxRecDepth 20000 in
theorem zmt75 : zty[75]? = some (yX9_foundBy, cX9_foundBy, 5, (some .long)) := rfl
set_option maxRecDepth 20000 in
theorem zmc75 : zcd[75]? = some (false, false, kX9_foundBy) := rfl
set_option maxRecDepth 20000 in
theorem zmt76 : zty[76]? = some (yX9_thatCouldBe, cX9_thatCouldBe, 6, (some .long)) := rfl
set_option maxRecDepth 20000 in
theorem zmc76 : zcd[76]? = some (false, false, kX9_thatCouldBe) := rfl
set_option maxRecDepth 20000 in
theorem zmt77 : zty[77]? = some (yX9_bestToPart, cX9_bestToPart, 9, (some .int)) := rfl
set_option maxRecDepth 20000 in
theorem zmc77 : zcd[77]? = some (false, false, kX9_bestToPart) := rfl
set_option maxRecDepth 20000 in
theorem zmt78 : zty[78]? = some (yX9_greatestAlike, cX9_greatestAlike, 9, (some .int)) := rfl
set_option maxRecDepth 20000 in
theorem zmc78 : zcd[78]? = some (false, false, kX9_greatestAlike) := rfl
set_option maxRecDepth 20000 in
theorem zmt79 : zty[79]? = some (yX9_bitNumber, cX9_bitNumber, 6, (some .int)) := rfl
set_option maxRecDepth 20000 in
theorem zmc79 : zcd[79]? = some (false, false, kX9_bitNumber) := rfl
set_option maxRecDepth 20000 in
theorem zmt80 : zty[80]? = some (yX10_init, cX10_init, 1, none) := rfl
set_option maxRecDepth 20000 in
theorem zmc80 : zcd[80]? = some (true, true, kX10_init) := rfl
set_option maxRecDepth 20000 in
theorem zmt81 : zty[81]? = some (yX10_hasLine, cX10_hasLine, 2, (some .boolean)) := rfl
set_option maxRecDepth 20000 in
theorem zmc81 : zcd[81]? = some (false, false, kX10_hasLine) := rfl
set_option maxRecDepth 20000 in
theorem zmt82 : zty[82]? = some (yX10_forget, cX10_forget, 1, none) := rfl
set_option maxRecDepth 20000 in
theorem zmc82 : zcd[82]? = some (false, false, kX10_forget) := rfl
set_option maxRecDepth 20000 in
theorem zmt83 : zty[83]? = some (yX10_become, cX10_become, 2, none) := rfl
set_option maxRecDepth 20000 in
theorem zmc83 : zcd[83]? = some (false, false, kX10_become) := rfl
set_option maxRecDepth 20000 in
theorem zmt84 : zty[84]? = some (yX10_leanThroughWires, cX10_leanThroughWires, 3, none) := rfl
set_option maxRecDepth 20000 in
theorem zmc84 : zcd[84]? = some (false, false, kX10_leanThroughWires) := rfl
set_option maxRecDepth 20000 in
theorem zmt85 : zty[85]? = some (yX10_leastInRing, cX10_leastInRing, 2, (some .int)) := rfl
set_option maxRecDepth 20000 in
theorem zmc85 : zcd[85]? = some (false, false, kX10_leastInRing) := rfl
set_option maxRecDepth 20000 in
theorem zmt86 : zty[86]? = some (yX10_leastLacking, cX10_leastLacking, 2, (some .int)) := rfl
set_option maxRecDepth 20000 in
theorem zmc86 : zcd[86]? = some (false, false, kX10_leastLacking) := rfl
set_option maxRecDepth 20000 in
theorem zmt87 : zty[87]? = some (yX10_putInOrder, cX10_putInOrder, 3, none) := rfl
set_option maxRecDepth 20000 in
theorem zmc87 : zcd[87]? = some (false, false, kX10_putInOrder) := rfl
set_option maxRecDepth 20000 in
theorem zmt88 : zty[88]? = some (yX10_orderNext, cX10_orderNext, 2, none) := rfl
set_option maxRecDepth 20000 in
theorem zmc88 : zcd[88]? = some (false, false, kX10_orderNext) := rfl
set_option maxRecDepth 20000 in
theorem zmt89 : zty[89]? = some (yX11_init, cX11_init, 1, none) := rfl
set_option maxRecDepth 20000 in
theorem zmc89 : zcd[89]? = some (true, true, kX11_init) := rfl
set_option maxRecDepth 20000 in
theorem zmt90 : zty[90]? = some (yX11_write, cX11_write, 5, (some .int)) := rfl
set_option maxRecDepth 20000 in
theorem zmc90 : zcd[90]? = some (false, false, kX11_write) := rfl
set_option maxRecDepth 20000 in
theorem zmt91 : zty[91]? = some (yX11_clear, cX11_clear, 3, (some .int)) := rfl
set_option maxRecDepth 20000 in
theorem zmc91 : zcd[91]? = some (false, false, kX11_clear) := rfl
set_option maxRecDepth 20000 in
theorem zmt92 : zty[92]? = some (yX11_fault, cX11_fault, 2, (some .int)) := rfl
set_option maxRecDepth 20000 in
theorem zmc92 : zcd[92]? = some (false, false, kX11_fault) := rfl
set_option maxRecDepth 20000 in
theorem zmt93 : zty[93]? = some (yX11_ring, cX11_ring, 3, (some .int)) := rfl
set_option maxRecDepth 20000 in
theorem zmc93 : zcd[93]? = some (false, false, kX11_ring) := rfl
set_option maxRecDepth 20000 in
theorem zmt94 : zty[94]? = some (yX11_build, cX11_build, 2, (some .int)) := rfl
set_option maxRecDepth 20000 in
theorem zmc94 : zcd[94]? = some (false, false, kX11_build) := rfl
set_option maxRecDepth 20000 in
theorem zmt95 : zty[95]? = some (yX11_line, cX11_line, 5, (some .int)) := rfl
set_option maxRecDepth 20000 in
theorem zmc95 : zcd[95]? = some (false, false, kX11_line) := rfl
set_option maxRecDepth 20000 in
theorem zmt96 : zty[96]? = some (yX11_state, cX11_state, 3, (some .int)) := rfl
set_option maxRecDepth 20000 in
theorem zmc96 : zcd[96]? = some (false, false, kX11_state) := rfl
set_option maxRecDepth 20000 in
theorem zmt97 : zty[97]? = some (yX11_step, cX11_step, 3, (some .int)) := rfl
set_option maxRecDepth 20000 in
theorem zmc97 : zcd[97]? = some (false, false, kX11_step) := rfl
set_option maxRecDepth 20000 in
theorem zmt98 : zty[98]? = some (yX11_value, cX11_value, 2, (some .int)) := rfl
set_option maxRecDepth 20000 in
theorem zmc98 : zcd[98]? = some (false, false, kX11_value) := rfl
set_option maxRecDepth 20000 in
theorem zmt99 : zty[99]? = some (yX11_truth, cX11_truth, 4, (some .int)) := rfl
set_option maxRecDepth 20000 in
theorem zmc99 : zcd[99]? = some (false, false, kX11_truth) := rfl
set_option maxRecDepth 20000 in
theorem zmt100 : zty[100]? = some (yX11_ones, cX11_ones, 5, (some .int)) := rfl
set_option maxRecDepth 20000 in
theorem zmc100 : zcd[100]? = some (false, false, kX11_ones) := rfl
set_option maxRecDepth 20000 in
theorem zmt101 : zty[101]? = some (yX11_start, cX11_start, 3, (some .int)) := rfl
set_option maxRecDepth 20000 in
theorem zmc101 : zcd[101]? = some (false, false, kX11_start) := rfl
set_option maxRecDepth 20000 in
theorem zmt102 : zty[102]? = some (yX11_states, cX11_states, 1, (some .int)) := rfl
set_option maxRecDepth 20000 in
theorem zmc102 : zcd[102]? = some (false, false, kX11_states) := rfl
set_option maxRecDepth 20000 in
theorem zmt103 : zty[103]? = some (yX11_differ, cX11_differ, 6, (some .int)) := rfl
set_option maxRecDepth 20000 in
theorem zmc103 : zcd[103]? = some (false, false, kX11_differ) := rfl
set_option maxRecDepth 20000 in
theorem zmt104 : zty[104]? = some (yX11_touched, cX11_touched, 4, (some .int)) := rfl
set_option maxRecDepth 20000 in
theorem zmc104 : zcd[104]? = some (false, false, kX11_touched) := rfl
set_option maxRecDepth 20000 in
theorem zmt105 : zty[105]? = some (yX11_gate, cX11_gate, 6, (some .int)) := rfl
set_option maxRecDepth 20000 in
theorem zmc105 : zcd[105]? = some (false, false, kX11_gate) := rfl
set_option maxRecDepth 20000 in
theorem zmt106 : zty[106]? = some (yX11_rule, cX11_rule, 3, (some .int)) := rfl
set_option maxRecDepth 20000 in
theorem zmc106 : zcd[106]? = some (false, false, kX11_rule) := rfl
set_option maxRecDepth 20000 in
theorem zmt107 : zty[107]? = some (yX11_cover, cX11_cover, 3, (some .int)) := rfl
set_option maxRecDepth 20000 in
theorem zmc107 : zcd[107]? = some (false, false, kX11_cover) := rfl
set_option maxRecDepth 20000 in
theorem zmt108 : zty[108]? = some (yX11_arrival, cX11_arrival, 4, (some .int)) := rfl
set_option maxRecDepth 20000 in
theorem zmc108 : zcd[108]? = some (false, false, kX11_arrival) := rfl
set_option maxRecDepth 20000 in
theorem zmt109 : zty[109]? = some (yX11_worst, cX11_worst, 5, (some .int)) := rfl
set_option maxRecDepth 20000 in
theorem zmc109 : zcd[109]? = some (false, false, kX11_worst) := rfl
set_option maxRecDepth 20000 in
theorem zmt110 : zty[110]? = some (yX11_block, cX11_block, 1, (some .int)) := rfl
set_option maxRecDepth 20000 in
theorem zmc110 : zcd[110]? = some (false, false, kX11_block) := rfl
set_option maxRecDepth 20000 in
theorem zmt111 : zty[111]? = some (yX11_net, cX11_net, 2, (some .int)) := rfl
set_option maxRecDepth 20000 in
theorem zmc111 : zcd[111]? = some (false, false, kX11_net) := rfl
set_option maxRecDepth 20000 in
theorem zmt112 : zty[112]? = some (yX11_place, cX11_place, 3, (some .int)) := rfl
set_option maxRecDepth 20000 in
theorem zmc112 : zcd[112]? = some (false, false, kX11_place) := rfl
set_option maxRecDepth 20000 in
theorem zmt113 : zty[113]? = some (yX11_wire, cX11_wire, 2, (some .int)) := rfl
set_option maxRecDepth 20000 in
theorem zmc113 : zcd[113]? = some (false, false, kX11_wire) := rfl
set_option maxRecDepth 20000 in
theorem zmt114 : zty[114]? = some (yX11_least, cX11_least, 2, (some .int)) := rfl
set_option maxRecDepth 20000 in
theorem zmc114 : zcd[114]? = some (false, false, kX11_least) := rfl
set_option maxRecDepth 20000 in
theorem zmt115 : zty[115]? = some (yX11_swap, cX11_swap, 1, (some .int)) := rfl
set_option maxRecDepth 20000 in
theorem zmc115 : zcd[115]? = some (false, false, kX11_swap) := rfl
set_option maxRecDepth 20000 in
theorem zmt116 : zty[116]? = some (yX11_ends, cX11_ends, 3, (some .int)) := rfl
set_option maxRecDepth 20000 in
theorem zmc116 : zcd[116]? = some (false, false, kX11_ends) := rfl
set_option maxRecDepth 20000 in
theorem zmt117 : zty[117]? = some (yX11_fails, cX11_fails, 3, (some .int)) := rfl
set_option maxRecDepth 20000 in
theorem zmc117 : zcd[117]? = some (false, false, kX11_fails) := rfl
set_option maxRecDepth 20000 in
theorem zmt118 : zty[118]? = some (yX11_finds, cX11_finds, 6, (some .int)) := rfl
set_option maxRecDepth 20000 in
theorem zmc118 : zcd[118]? = some (false, false, kX11_finds) := rfl
set_option maxRecDepth 20000 in
theorem zmt119 : zty[119]? = some (yX11_trial, cX11_trial, 2, (some .int)) := rfl
set_option maxRecDepth 20000 in
theorem zmc119 : zcd[119]? = some (false, false, kX11_trial) := rfl
set_option maxRecDepth 20000 in
theorem zmt120 : zty[120]? = some (yX11_noTrials, cX11_noTrials, 2, (some .int)) := rfl
set_option maxRecDepth 20000 in
theorem zmc120 : zcd[120]? = some (false, false, kX11_noTrials) := rfl
set_option maxRecDepth 20000 in
theorem zmt121 : zty[121]? = some (yX11_fewest, cX11_fewest, 4, (some .int)) := rfl
set_option maxRecDepth 20000 in
theorem zmc121 : zcd[121]? = some (false, false, kX11_fewest) := rfl
set_option maxRecDepth 20000 in
theorem zmt122 : zty[122]? = some (yX11_see, cX11_see, 4, (some .int)) := rfl
set_option maxRecDepth 20000 in
theorem zmc122 : zcd[122]? = some (false, false, kX11_see) := rfl
set_option maxRecDepth 20000 in
theorem zmt123 : zty[123]? = some (yX11_could, cX11_could, 4, (some .int)) := rfl
set_option maxRecDepth 20000 in
theorem zmc123 : zcd[123]? = some (false, false, kX11_could) := rfl
set_option maxRecDepth 20000 in
theorem zmt124 : zty[124]? = some (yX11_parts, cX11_parts, 1, (some .int)) := rfl
set_option maxRecDepth 20000 in
theorem zmc124 : zcd[124]? = some (false, false, kX11_parts) := rfl
set_option maxRecDepth 20000 in
theorem zmt125 : zty[125]? = some (yX11_keep, cX11_keep, 2, (some .int)) := rfl
set_option maxRecDepth 20000 in
theorem zmc125 : zcd[125]? = some (false, false, kX11_keep) := rfl
set_option maxRecDepth 20000 in
theorem zmt126 : zty[126]? = some (yX11_back, cX11_back, 2, (some .int)) := rfl
set_option maxRecDepth 20000 in
theorem zmc126 : zcd[126]? = some (false, false, kX11_back) := rfl
set_option maxRecDepth 20000 in
theorem zmt127 : zty[127]? = some (yX11_count, cX11_count, 2, (some .int)) := rfl
set_option maxRecDepth 20000 in
theorem zmc127 : zcd[127]? = some (false, false, kX11_count) := rfl
set_option maxRecDepth 20000 in
theorem zmt128 : zty[128]? = some (yX11_isBelow, cX11_isBelow, 2, (some .boolean)) := rfl
set_option maxRecDepth 20000 in
theorem zmc128 : zcd[128]? = some (false, false, kX11_isBelow) := rfl
set_option maxRecDepth 20000 in
theorem zmt129 : zty[129]? = some (yX11_isView, cX11_isView, 1, (some .boolean)) := rfl
set_option maxRecDepth 20000 in
theorem zmc129 : zcd[129]? = some (false, false, kX11_isView) := rfl
set_option maxRecDepth 20000 in
theorem zmt130 : zty[130]? = some (yX11_mayHaveLine, cX11_mayHaveLine, 1, (some .boolean)) := rfl
set_option maxRecDepth 20000 in
theorem zmc130 : zcd[130]? = some (false, false, kX11_mayHaveLine) := rfl
set_option maxRecDepth 20000 in
theorem zmt131 : zty[131]? = some (yX11_isWire, cX11_isWire, 1, (some .boolean)) := rfl
set_option maxRecDepth 20000 in
theorem zmc131 : zcd[131]? = some (false, false, kX11_isWire) := rfl
set_option maxRecDepth 20000 in
theorem zmt132 : zty[132]? = some (yX11_hasBit, cX11_hasBit, 2, (some .boolean)) := rfl
set_option maxRecDepth 20000 in
theorem zmc132 : zcd[132]? = some (false, false, kX11_hasBit) := rfl
set_option maxRecDepth 20000 in
theorem zmt133 : zty[133]? = some (yX11_leastRow, cX11_leastRow, 3, (some .int)) := rfl
set_option maxRecDepth 20000 in
theorem zmc133 : zcd[133]? = some (false, false, kX11_leastRow) := rfl
set_option maxRecDepth 20000 in
theorem zmt134 : zty[134]? = some (yX11_tokenOf, cX11_tokenOf, 2, (some .int)) := rfl
set_option maxRecDepth 20000 in
theorem zmc134 : zcd[134]? = some (false, false, kX11_tokenOf) := rfl
set_option maxRecDepth 20000 in
theorem zmt135 : zty[135]? = some (yX11_kindOf, cX11_kindOf, 1, (some .int)) := rfl
set_option maxRecDepth 20000 in
theorem zmc135 : zcd[135]? = some (false, false, kX11_kindOf) := rfl
set_option maxRecDepth 20000 in
theorem zmt136 : zty[136]? = some (yX11_slotOf, cX11_slotOf, 1, (some .int)) := rfl
set_option maxRecDepth 20000 in
theorem zmc136 : zcd[136]? = some (false, false, kX11_slotOf) := rfl
set_option maxRecDepth 20000 in
theorem zmt137 : zty[137]? = some (yX12_init, cX12_init, 2, none) := rfl
set_option maxRecDepth 20000 in
theorem zmc137 : zcd[137]? = some (true, true, kX12_init) := rfl
set_option maxRecDepth 20000 in
theorem zmt138 : zty[138]? = some (yX12_in, cX12_in, 3, (some .boolean)) := rfl
set_option maxRecDepth 20000 in
theorem zmc138 : zcd[138]? = some (false, false, kX12_in) := rfl
set_option maxRecDepth 20000 in
theorem zmt139 : zty[139]? = some (yX12_write, cX12_write, 6, (some .int)) := rfl
set_option maxRecDepth 20000 in
theorem zmc139 : zcd[139]? = some (false, false, kX12_write) := rfl
set_option maxRecDepth 20000 in
theorem zmt140 : zty[140]? = some (yX12_clear, cX12_clear, 3, (some .int)) := rfl
set_option maxRecDepth 20000 in
theorem zmc140 : zcd[140]? = some (false, false, kX12_clear) := rfl
set_option maxRecDepth 20000 in
theorem zmt141 : zty[141]? = some (yX12_takes, cX12_takes, 1, (some .int)) := rfl
set_option maxRecDepth 20000 in
theorem zmc141 : zcd[141]? = some (false, false, kX12_takes) := rfl
set_option maxRecDepth 20000 in
theorem zmt142 : zty[142]? = some (yX12_read, cX12_read, 8, (some .int)) := rfl
set_option maxRecDepth 20000 in
theorem zmc142 : zcd[142]? = some (false, false, kX12_read) := rfl
set_option maxRecDepth 20000 in
theorem zmt143 : zty[143]? = some (yX12_namesIn, cX12_namesIn, 6, (some .int)) := rfl
set_option maxRecDepth 20000 in
theorem zmc143 : zcd[143]? = some (false, false, kX12_namesIn) := rfl
set_option maxRecDepth 20000 in
theorem zmt144 : zty[144]? = some (yX12_leans, cX12_leans, 6, (some .int)) := rfl
set_option maxRecDepth 20000 in
theorem zmc144 : zcd[144]? = some (false, false, kX12_leans) := rfl
set_option maxRecDepth 20000 in
theorem zmt145 : zty[145]? = some (yX12_ringOf, cX12_ringOf, 3, (some .int)) := rfl
set_option maxRecDepth 20000 in
theorem zmc145 : zcd[145]? = some (false, false, kX12_ringOf) := rfl
set_option maxRecDepth 20000 in
theorem zmt146 : zty[146]? = some (yX12_lackOf, cX12_lackOf, 4, (some .int)) := rfl
set_option maxRecDepth 20000 in
theorem zmc146 : zcd[146]? = some (false, false, kX12_lackOf) := rfl
set_option maxRecDepth 20000 in
theorem zmt147 : zty[147]? = some (yX12_fault, cX12_fault, 2, (some .int)) := rfl
set_option maxRecDepth 20000 in
theorem zmc147 : zcd[147]? = some (false, false, kX12_fault) := rfl
set_option maxRecDepth 20000 in
theorem zmt148 : zty[148]? = some (yX12_ring, cX12_ring, 3, (some .int)) := rfl
set_option maxRecDepth 20000 in
theorem zmc148 : zcd[148]? = some (false, false, kX12_ring) := rfl
set_option maxRecDepth 20000 in
theorem zmt149 : zty[149]? = some (yX12_layOrder, cX12_layOrder, 6, none) := rfl
set_option maxRecDepth 20000 in
theorem zmc149 : zcd[149]? = some (false, false, kX12_layOrder) := rfl
set_option maxRecDepth 20000 in
theorem zmt150 : zty[150]? = some (yX12_copyView, cX12_copyView, 4, none) := rfl
set_option maxRecDepth 20000 in
theorem zmc150 : zcd[150]? = some (false, false, kX12_copyView) := rfl
set_option maxRecDepth 20000 in
theorem zmt151 : zty[151]? = some (yX12_reads, cX12_reads, 2, (some .boolean)) := rfl
set_option maxRecDepth 20000 in
theorem zmc151 : zcd[151]? = some (false, false, kX12_reads) := rfl
set_option maxRecDepth 20000 in
theorem zmt152 : zty[152]? = some (yX12_build, cX12_build, 3, (some .int)) := rfl
set_option maxRecDepth 20000 in
theorem zmc152 : zcd[152]? = some (false, false, kX12_build) := rfl
set_option maxRecDepth 20000 in
theorem zmt153 : zty[153]? = some (yX12_has, cX12_has, 3, (some .boolean)) := rfl
set_option maxRecDepth 20000 in
theorem zmc153 : zcd[153]? = some (false, false, kX12_has) := rfl
set_option maxRecDepth 20000 in
theorem zmt154 : zty[154]? = some (yX12_uses, cX12_uses, 6, (some .int)) := rfl
set_option maxRecDepth 20000 in
theorem zmc154 : zcd[154]? = some (false, false, kX12_uses) := rfl
set_option maxRecDepth 20000 in
theorem zmt155 : zty[155]? = some (yX12_line, cX12_line, 4, (some .int)) := rfl
set_option maxRecDepth 20000 in
theorem zmc155 : zcd[155]? = some (false, false, kX12_line) := rfl
set_option maxRecDepth 20000 in
theorem zmt156 : zty[156]? = some (yX12_joined, cX12_joined, 3, (some .int)) := rfl
set_option maxRecDepth 20000 in
theorem zmc156 : zcd[156]? = some (false, false, kX12_joined) := rfl
set_option maxRecDepth 20000 in
theorem zmt157 : zty[157]? = some (yX12_chosen, cX12_chosen, 3, (some .int)) := rfl
set_option maxRecDepth 20000 in
theorem zmc157 : zcd[157]? = some (false, false, kX12_chosen) := rfl
set_option maxRecDepth 20000 in
theorem zmt158 : zty[158]? = some (yX12_used, cX12_used, 2, (some .int)) := rfl
set_option maxRecDepth 20000 in
theorem zmc158 : zcd[158]? = some (false, false, kX12_used) := rfl
set_option maxRecDepth 20000 in
theorem zmt159 : zty[159]? = some (yX12_made, cX12_made, 6, (some .int)) := rfl
set_option maxRecDepth 20000 in
theorem zmc159 : zcd[159]? = some (false, false, kX12_made) := rfl
set_option maxRecDepth 20000 in
theorem zmt160 : zty[160]? = some (yX12_layWires, cX12_layWires, 5, none) := rfl
set_option maxRecDepth 20000 in
theorem zmc160 : zcd[160]? = some (false, false, kX12_layWires) := rfl
set_option maxRecDepth 20000 in
theorem zmt161 : zty[161]? = some (yX12_layRow, cX12_layRow, 4, none) := rfl
set_option maxRecDepth 20000 in
theorem zmc161 : zcd[161]? = some (false, false, kX12_layRow) := rfl
set_option maxRecDepth 20000 in
theorem zmt162 : zty[162]? = some (yX12_told, cX12_told, 3, (some .int)) := rfl
set_option maxRecDepth 20000 in
theorem zmc162 : zcd[162]? = some (false, false, kX12_told) := rfl
set_option maxRecDepth 20000 in
theorem zmt163 : zty[163]? = some (yX12_stateNow, cX12_stateNow, 3, (some .int)) := rfl
set_option maxRecDepth 20000 in
theorem zmc163 : zcd[163]? = some (false, false, kX12_stateNow) := rfl
set_option maxRecDepth 20000 in
theorem zmt164 : zty[164]? = some (yX12_state, cX12_state, 5, (some .int)) := rfl
set_option maxRecDepth 20000 in
theorem zmc164 : zcd[164]? = some (false, false, kX12_state) := rfl
set_option maxRecDepth 20000 in
theorem zmt165 : zty[165]? = some (yX12_step, cX12_step, 4, (some .int)) := rfl
set_option maxRecDepth 20000 in
theorem zmc165 : zcd[165]? = some (false, false, kX12_step) := rfl
set_option maxRecDepth 20000 in
theorem zmt166 : zty[166]? = some (yX12_value, cX12_value, 2, (some .int)) := rfl
set_option maxRecDepth 20000 in
theorem zmc166 : zcd[166]? = some (false, false, kX12_value) := rfl
set_option maxRecDepth 20000 in
theorem zmt167 : zty[167]? = some (yX12_truth, cX12_truth, 4, (some .int)) := rfl
set_option maxRecDepth 20000 in
theorem zmc167 : zcd[167]? = some (false, false, kX12_truth) := rfl
set_option maxRecDepth 20000 in
theorem zmt168 : zty[168]? = some (yX12_ones, cX12_ones, 5, (some .int)) := rfl
set_option maxRecDepth 20000 in
theorem zmc168 : zcd[168]? = some (false, false, kX12_ones) := rfl
set_option maxRecDepth 20000 in
theorem zmt169 : zty[169]? = some (yX12_start, cX12_start, 3, (some .int)) := rfl
set_option maxRecDepth 20000 in
theorem zmc169 : zcd[169]? = some (false, false, kX12_start) := rfl
set_option maxRecDepth 20000 in
theorem zmt170 : zty[170]? = some (yX12_states, cX12_states, 6, (some .int)) := rfl
set_option maxRecDepth 20000 in
theorem zmc170 : zcd[170]? = some (false, false, kX12_states) := rfl
set_option maxRecDepth 20000 in
theorem zmt171 : zty[171]? = some (yX12_differ, cX12_differ, 5, (some .int)) := rfl
set_option maxRecDepth 20000 in
theorem zmc171 : zcd[171]? = some (false, false, kX12_differ) := rfl
set_option maxRecDepth 20000 in
theorem zmt172 : zty[172]? = some (yX12_touched, cX12_touched, 5, (some .int)) := rfl
set_option maxRecDepth 20000 in
theorem zmc172 : zcd[172]? = some (false, false, kX12_touched) := rfl
set_option maxRecDepth 20000 in
theorem zmt173 : zty[173]? = some (yX12_gate, cX12_gate, 5, (some .int)) := rfl
set_option maxRecDepth 20000 in
theorem zmc173 : zcd[173]? = some (false, false, kX12_gate) := rfl
set_option maxRecDepth 20000 in
theorem zmt174 : zty[174]? = some (yX12_rule, cX12_rule, 4, (some .int)) := rfl
set_option maxRecDepth 20000 in
theorem zmc174 : zcd[174]? = some (false, false, kX12_rule) := rfl
set_option maxRecDepth 20000 in
theorem zmt175 : zty[175]? = some (yX12_less, cX12_less, 2, (some .int)) := rfl
set_option maxRecDepth 20000 in
theorem zmc175 : zcd[175]? = some (false, false, kX12_less) := rfl
set_option maxRecDepth 20000 in
theorem zmt176 : zty[176]? = some (yX12_cost, cX12_cost, 9, none) := rfl
set_option maxRecDepth 20000 in
theorem zmc176 : zcd[176]? = some (false, false, kX12_cost) := rfl
set_option maxRecDepth 20000 in
theorem zmt177 : zty[177]? = some (yX12_coverOf, cX12_coverOf, 6, (some .int)) := rfl
set_option maxRecDepth 20000 in
theorem zmc177 : zcd[177]? = some (false, false, kX12_coverOf) := rfl
set_option maxRecDepth 20000 in
theorem zmt178 : zty[178]? = some (yX12_cover, cX12_cover, 5, (some .int)) := rfl
set_option maxRecDepth 20000 in
theorem zmc178 : zcd[178]? = some (false, false, kX12_cover) := rfl
set_option maxRecDepth 20000 in
theorem zmt179 : zty[179]? = some (yX12_kindOf, cX12_kindOf, 1, (some .int)) := rfl
set_option maxRecDepth 20000 in
theorem zmc179 : zcd[179]? = some (false, false, kX12_kindOf) := rfl
set_option maxRecDepth 20000 in
theorem zmt180 : zty[180]? = some (yX12_arrive, cX12_arrive, 9, none) := rfl
set_option maxRecDepth 20000 in
theorem zmc180 : zcd[180]? = some (false, false, kX12_arrive) := rfl
set_option maxRecDepth 20000 in
theorem zmt181 : zty[181]? = some (yX12_layArrivals, cX12_layArrivals, 4, none) := rfl
set_option maxRecDepth 20000 in
theorem zmc181 : zcd[181]? = some (false, false, kX12_layArrivals) := rfl
set_option maxRecDepth 20000 in
theorem zmt182 : zty[182]? = some (yX12_arrival, cX12_arrival, 4, (some .int)) := rfl
set_option maxRecDepth 20000 in
theorem zmc182 : zcd[182]? = some (false, false, kX12_arrival) := rfl
set_option maxRecDepth 20000 in
theorem zmt183 : zty[183]? = some (yX12_worst, cX12_worst, 7, (some .int)) := rfl
set_option maxRecDepth 20000 in
theorem zmc183 : zcd[183]? = some (false, false, kX12_worst) := rfl
set_option maxRecDepth 20000 in
theorem zmt184 : zty[184]? = some (yX12_blockAt, cX12_blockAt, 3, (some .int)) := rfl
set_option maxRecDepth 20000 in
theorem zmc184 : zcd[184]? = some (false, false, kX12_blockAt) := rfl
set_option maxRecDepth 20000 in
theorem zmt185 : zty[185]? = some (yX12_block, cX12_block, 2, (some .int)) := rfl
set_option maxRecDepth 20000 in
theorem zmc185 : zcd[185]? = some (false, false, kX12_block) := rfl
set_option maxRecDepth 20000 in
theorem zmt186 : zty[186]? = some (yX12_net, cX12_net, 4, (some .int)) := rfl
set_option maxRecDepth 20000 in
theorem zmc186 : zcd[186]? = some (false, false, kX12_net) := rfl
set_option maxRecDepth 20000 in
theorem zmt187 : zty[187]? = some (yX12_place, cX12_place, 5, (some .int)) := rfl
set_option maxRecDepth 20000 in
theorem zmc187 : zcd[187]? = some (false, false, kX12_place) := rfl
set_option maxRecDepth 20000 in
theorem zmt188 : zty[188]? = some (yX12_wireOf, cX12_wireOf, 9, (some .int)) := rfl
set_option maxRecDepth 20000 in
theorem zmc188 : zcd[188]? = some (false, false, kX12_wireOf) := rfl
set_option maxRecDepth 20000 in
theorem zmt189 : zty[189]? = some (yX12_allWire, cX12_allWire, 3, (some .int)) := rfl
set_option maxRecDepth 20000 in
theorem zmc189 : zcd[189]? = some (false, false, kX12_allWire) := rfl
set_option maxRecDepth 20000 in
theorem zmt190 : zty[190]? = some (yX12_tryNow, cX12_tryNow, 2, none) := rfl
set_option maxRecDepth 20000 in
theorem zmc190 : zcd[190]? = some (false, false, kX12_tryNow) := rfl
set_option maxRecDepth 20000 in
theorem zmt191 : zty[191]? = some (yX12_wire, cX12_wire, 2, (some .int)) := rfl
set_option maxRecDepth 20000 in
theorem zmc191 : zcd[191]? = some (false, false, kX12_wire) := rfl
set_option maxRecDepth 20000 in
theorem zmt192 : zty[192]? = some (yX12_isFree, cX12_isFree, 5, (some .boolean)) := rfl
set_option maxRecDepth 20000 in
theorem zmc192 : zcd[192]? = some (false, false, kX12_isFree) := rfl
set_option maxRecDepth 20000 in
theorem zmt193 : zty[193]? = some (yX12_layLeast, cX12_layLeast, 5, (some .int)) := rfl
set_option maxRecDepth 20000 in
theorem zmc193 : zcd[193]? = some (false, false, kX12_layLeast) := rfl
set_option maxRecDepth 20000 in
theorem zmt194 : zty[194]? = some (yX12_least, cX12_least, 3, (some .int)) := rfl
set_option maxRecDepth 20000 in
theorem zmc194 : zcd[194]? = some (false, false, kX12_least) := rfl
set_option maxRecDepth 20000 in
theorem zmt195 : zty[195]? = some (yX12_change, cX12_change, 4, none) := rfl
set_option maxRecDepth 20000 in
theorem zmc195 : zcd[195]? = some (false, false, kX12_change) := rfl
set_option maxRecDepth 20000 in
theorem zmt196 : zty[196]? = some (yX12_swap, cX12_swap, 9, (some .int)) := rfl
set_option maxRecDepth 20000 in
theorem zmc196 : zcd[196]? = some (false, false, kX12_swap) := rfl
set_option maxRecDepth 20000 in
theorem zmt197 : zty[197]? = some (yX12_ends, cX12_ends, 3, (some .int)) := rfl
set_option maxRecDepth 20000 in
theorem zmc197 : zcd[197]? = some (false, false, kX12_ends) := rfl
set_option maxRecDepth 20000 in
theorem zmt198 : zty[198]? = some (yX12_endsOf, cX12_endsOf, 4, (some .int)) := rfl
set_option maxRecDepth 20000 in
theorem zmc198 : zcd[198]? = some (false, false, kX12_endsOf) := rfl
set_option maxRecDepth 20000 in
theorem zmt199 : zty[199]? = some (yX12_failsOf, cX12_failsOf, 5, (some .int)) := rfl
set_option maxRecDepth 20000 in
theorem zmc199 : zcd[199]? = some (false, false, kX12_failsOf) := rfl
set_option maxRecDepth 20000 in
theorem zmt200 : zty[200]? = some (yX12_fails, cX12_fails, 3, (some .int)) := rfl
set_option maxRecDepth 20000 in
theorem zmc200 : zcd[200]? = some (false, false, kX12_fails) := rfl
set_option maxRecDepth 20000 in
theorem zmt201 : zty[201]? = some (yX12_finds, cX12_finds, 3, (some .int)) := rfl
set_option maxRecDepth 20000 in
theorem zmc201 : zcd[201]? = some (false, false, kX12_finds) := rfl
set_option maxRecDepth 20000 in
theorem zmt202 : zty[202]? = some (yX12_trial, cX12_trial, 2, (some .int)) := rfl
set_option maxRecDepth 20000 in
theorem zmc202 : zcd[202]? = some (false, false, kX12_trial) := rfl
set_option maxRecDepth 20000 in
theorem zmt203 : zty[203]? = some (yX12_noTrials, cX12_noTrials, 2, (some .int)) := rfl
set_option maxRecDepth 20000 in
theorem zmc203 : zcd[203]? = some (false, false, kX12_noTrials) := rfl
set_option maxRecDepth 20000 in
theorem zmt204 : zty[204]? = some (yX12_foundBy, cX12_foundBy, 5, (some .long)) := rfl
set_option maxRecDepth 20000 in
theorem zmc204 : zcd[204]? = some (false, false, kX12_foundBy) := rfl
set_option maxRecDepth 20000 in
theorem zmt205 : zty[205]? = some (yX12_fewest, cX12_fewest, 10, (some .int)) := rfl
set_option maxRecDepth 20000 in
theorem zmc205 : zcd[205]? = some (false, false, kX12_fewest) := rfl
set_option maxRecDepth 20000 in
theorem zmt206 : zty[206]? = some (yX12_see, cX12_see, 4, (some .int)) := rfl
set_option maxRecDepth 20000 in
theorem zmc206 : zcd[206]? = some (false, false, kX12_see) := rfl
set_option maxRecDepth 20000 in
theorem zmt207 : zty[207]? = some (yX12_failsAt, cX12_failsAt, 3, (some .int)) := rfl
set_option maxRecDepth 20000 in
theorem zmc207 : zcd[207]? = some (false, false, kX12_failsAt) := rfl
set_option maxRecDepth 20000 in
theorem zmt208 : zty[208]? = some (yX12_isSo, cX12_isSo, 4, (some .boolean)) := rfl
set_option maxRecDepth 20000 in
theorem zmc208 : zcd[208]? = some (false, false, kX12_isSo) := rfl
set_option maxRecDepth 20000 in
theorem zmt209 : zty[209]? = some (yX12_could, cX12_could, 4, (some .int)) := rfl
set_option maxRecDepth 20000 in
theorem zmc209 : zcd[209]? = some (false, false, kX12_could) := rfl
set_option maxRecDepth 20000 in
theorem zmt210 : zty[210]? = some (yX12_parts, cX12_parts, 8, (some .int)) := rfl
set_option maxRecDepth 20000 in
theorem zmc210 : zcd[210]? = some (false, false, kX12_parts) := rfl
set_option maxRecDepth 20000 in
theorem zmt211 : zty[211]? = some (yX12_copyRest, cX12_copyRest, 4, none) := rfl
set_option maxRecDepth 20000 in
theorem zmc211 : zcd[211]? = some (false, false, kX12_copyRest) := rfl
set_option maxRecDepth 20000 in
theorem zmt212 : zty[212]? = some (yX12_keep, cX12_keep, 1, (some .int)) := rfl
set_option maxRecDepth 20000 in
theorem zmc212 : zcd[212]? = some (false, false, kX12_keep) := rfl
set_option maxRecDepth 20000 in
theorem zmt213 : zty[213]? = some (yX12_back, cX12_back, 1, (some .int)) := rfl
set_option maxRecDepth 20000 in
theorem zmc213 : zcd[213]? = some (false, false, kX12_back) := rfl
set_option maxRecDepth 20000 in
theorem zmt214 : zty[214]? = some (yX12_count, cX12_count, 2, (some .int)) := rfl
set_option maxRecDepth 20000 in
theorem zmc214 : zcd[214]? = some (false, false, kX12_count) := rfl
set_option maxRecDepth 20000 in
theorem zmt215 : zty[215]? = some (yJ6_numberOfLeadingZeros_0f7a4, cJ6_numberOfLeadingZeros_0f7a4, 2, (some .int)) := rfl
set_option maxRecDepth 20000 in
theorem zmc215 : zcd[215]? = some (false, false, kJ6_numberOfLeadingZeros_0f7a4) := rfl
set_option maxRecDepth 20000 in
theorem zmt216 : zty[216]? = some (yJ6_numberOfTrailingZeros_0f7a4, cJ6_numberOfTrailingZeros_0f7a4, 2, (some .int)) := rfl
set_option maxRecDepth 20000 in
theorem zmc216 : zcd[216]? = some (false, false, kJ6_numberOfTrailingZeros_0f7a4) := rfl
set_option maxRecDepth 20000 in
theorem zmt217 : zty[217]? = some (yJ6_bitCount_0f7a4, cJ6_bitCount_0f7a4, 1, (some .int)) := rfl
set_option maxRecDepth 20000 in
theorem zmc217 : zcd[217]? = some (false, false, kJ6_bitCount_0f7a4) := rfl
set_option maxRecDepth 20000 in
theorem zmt218 : zty[218]? = some (yJ13_numberOfTrailingZeros_95d88, cJ13_numberOfTrailingZeros_95d88, 3, (some .int)) := rfl
set_option maxRecDepth 20000 in
theorem zmc218 : zcd[218]? = some (false, false, kJ13_numberOfTrailingZeros_95d88) := rfl
set_option maxRecDepth 20000 in
theorem zmt219 : zty[219]? = some (yJ13_bitCount_95d88, cJ13_bitCount_95d88, 2, (some .int)) := rfl
set_option maxRecDepth 20000 in
theorem zmc219 : zcd[219]? = some (false, false, kJ13_bitCount_95d88) := rfl
set_option maxRecDepth 20000 in
theorem zmt220 : zty[220]? = some (yJ7_fill_d0a16, cJ7_fill_d0a16, 5, none) := rfl
set_option maxRecDepth 20000 in
theorem zmc220 : zcd[220]? = some (false, false, kJ7_fill_d0a16) := rfl
set_option maxRecDepth 20000 in
theorem zmt221 : zty[221]? = some (yJ7_fill_53178, cJ7_fill_53178, 4, none) := rfl
set_option maxRecDepth 20000 in
theorem zmc221 : zcd[221]? = some (false, false, kJ7_fill_53178) := rfl
