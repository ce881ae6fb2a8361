/-! the shape behind the two constructors; cell 0 is the script (of zn ints), 1 to 4 the arrays of constants -/
def zSHr : List zE := [
  (5, 6, []),
  (4, 5, []),
  (4, 5, []),
  (4, 8, []),
  (3, 11, [some 6, some 11, some 26, some 34, some 37, some 43, some 49, some 55, some 59, some 62, some 67, some 73, some 84, none, none, none]),
  (2, 0, [some 7, some 9]),
  (3, 7, [some 8, none]),
  (0, 200, []),
  (3, 7, [some 10, none]),
  (0, 200, []),
  (2, 1, [some 12, some 19]),
  (3, 10, [some 13, some 14, some 15, some 16, some 17, some 18, none, none]),
  (0, 200, []),
  (0, 19, []),
  (0, 19, []),
  (0, 19, []),
  (0, 19, []),
  (0, 13, []),
  (3, 10, [some 20, some 21, some 22, some 23, some 24, some 25, none, none]),
  (0, 200, []),
  (0, 19, []),
  (0, 19, []),
  (0, 19, []),
  (0, 19, []),
  (0, 13, []),
  (3, 5, [some 27, none, none, none, none]),
  (3, 10, [some 28, some 29, some 30, some 31, some 32, some 33, none, none]),
  (0, 200, []),
  (0, 19, []),
  (0, 19, []),
  (0, 19, []),
  (0, 19, []),
  (0, 13, []),
  (3, 6, [some 35, some 36, none, none]),
  (0, 19, []),
  (0, 18, []),
  (3, 4, [some 38, some 39, some 40, some 41, some 42]),
  (1, 19, []),
  (1, 19, []),
  (1, 19, []),
  (1, 19, []),
  (1, 18, []),
  (3, 4, [some 44, some 45, some 46, some 47, some 48]),
  (1, 19, []),
  (1, 19, []),
  (1, 19, []),
  (1, 19, []),
  (1, 18, []),
  (3, 4, [some 50, some 51, some 52, some 53, some 54]),
  (1, 19, []),
  (1, 19, []),
  (1, 19, []),
  (1, 19, []),
  (1, 18, []),
  (3, 2, [some 56, some 57, some 58]),
  (0, 7, []),
  (0, 7, []),
  (0, 5, []),
  (3, 0, [some 60, some 61]),
  (0, 18, []),
  (0, 18, []),
  (3, 8, [some 63, some 64, some 65, some 66]),
  (0, 19, []),
  (0, 19, []),
  (0, 18, []),
  (0, 18, []),
  (3, 1, [some 68, some 69, none, none, some 70, none, none, some 71, some 72]),
  (0, 7, []),
  (0, 8, []),
  (0, 7, []),
  (0, 7, []),
  (0, 8, []),
  (3, 9, [some 74, some 75, none, some 76, some 77, some 83]),
  (0, 10, []),
  (0, 10, []),
  (1, 10, []),
  (3, 4, [some 78, some 79, some 80, some 81, some 82]),
  (1, 19, []),
  (1, 19, []),
  (1, 19, []),
  (1, 19, []),
  (1, 18, []),
  (1, 19, []),
  (2, 2, [some 85, some 100]),
  (3, 3, [some 86, some 93, none, none, none]),
  (3, 10, [some 87, some 88, some 89, some 90, some 91, some 92, none, none]),
  (0, 200, []),
  (0, 19, []),
  (0, 19, []),
  (0, 19, []),
  (0, 19, []),
  (0, 13, []),
  (3, 10, [some 94, some 95, some 96, some 97, some 98, some 99, none, none]),
  (0, 200, []),
  (0, 19, []),
  (0, 19, []),
  (0, 19, []),
  (0, 19, []),
  (0, 13, []),
  (3, 3, [some 101, some 108, none, none, none]),
  (3, 10, [some 102, some 103, some 104, some 105, some 106, some 107, none, none]),
  (0, 200, []),
  (0, 19, []),
  (0, 19, []),
  (0, 19, []),
  (0, 19, []),
  (0, 13, []),
  (3, 10, [some 109, some 110, some 111, some 112, some 113, some 114, none, none]),
  (0, 200, []),
  (0, 19, []),
  (0, 19, []),
  (0, 19, []),
  (0, 19, []),
  (0, 13, []),
  (3, 12, [some 116, some 117, some 118, some 119, some 120, some 121, some 122, some 123, some 124, some 125, some 126, none, none, some 127, some 128, some 129, some 130, some 131, none, none, some 132, some 133, some 134, some 135, some 136, some 137, some 138, none, some 139, none, some 140, some 141, some 142, none, some 143, some 144, some 145, none, some 146, some 147]),
  (0, 400, []),
  (0, 2, []),
  (0, 1400, []),
  (0, 133, []),
  (0, 133, []),
  (0, 7, []),
  (0, 63, []),
  (0, 7, []),
  (0, 12, []),
  (0, 3, []),
  (0, 3, []),
  (0, 7, []),
  (0, 7, []),
  (0, 5, []),
  (0, 19, []),
  (0, 10, []),
  (0, 19, []),
  (0, 10, []),
  (0, 10, []),
  (0, 19, []),
  (0, 19, []),
  (0, 10, []),
  (0, 10, []),
  (0, 7, []),
  (0, 8, []),
  (0, 7, []),
  (0, 7, []),
  (0, 10, []),
  (0, 10, []),
  (1, 10, []),
  (0, 39, []),
  (0, 39, [])]
def zSH (zn : Nat) : List zE := (4, zn, []) :: zSHr
theorem sh0 {zn : Nat} : (zSH zn)[0]? = some (4, zn, []) := rfl
theorem sh1 {zn : Nat} : (zSH zn)[1]? = some (5, 6, []) := rfl
theorem sh2 {zn : Nat} : (zSH zn)[2]? = some (4, 5, []) := rfl
theorem sh3 {zn : Nat} : (zSH zn)[3]? = some (4, 5, []) := rfl
theorem sh4 {zn : Nat} : (zSH zn)[4]? = some (4, 8, []) := rfl
theorem sh5 {zn : Nat} : (zSH zn)[5]? = some (3, 11, [some 6, some 11, some 26, some 34, some 37, some 43, some 49, some 55, some 59, some 62, some 67, some 73, some 84, none, none, none]) := rfl
theorem sh6 {zn : Nat} : (zSH zn)[6]? = some (2, 0, [some 7, some 9]) := rfl
theorem sh7 {zn : Nat} : (zSH zn)[7]? = some (3, 7, [some 8, none]) := rfl
theorem sh8 {zn : Nat} : (zSH zn)[8]? = some (0, 200, []) := rfl
theorem sh9 {zn : Nat} : (zSH zn)[9]? = some (3, 7, [some 10, none]) := rfl
theorem sh10 {zn : Nat} : (zSH zn)[10]? = some (0, 200, []) := rfl
theorem sh11 {zn : Nat} : (zSH zn)[11]? = some (2, 1, [some 12, some 19]) := rfl
theorem sh12 {zn : Nat} : (zSH zn)[12]? = some (3, 10, [some 13, some 14, some 15, some 16, some 17, some 18, none, none]) := rfl
theorem sh13 {zn : Nat} : (zSH zn)[13]? = some (0, 200, []) := rfl
theorem sh14 {zn : Nat} : (zSH zn)[14]? = some (0, 19, []) := rfl
theorem sh15 {zn : Nat} : (zSH zn)[15]? = some (0, 19, []) := rfl
theorem sh16 {zn : Nat} : (zSH zn)[16]? = some (0, 19, []) := rfl
theorem sh17 {zn : Nat} : (zSH zn)[17]? = some (0, 19, []) := rfl
theorem sh18 {zn : Nat} : (zSH zn)[18]? = some (0, 13, []) := rfl
theorem sh19 {zn : Nat} : (zSH zn)[19]? = some (3, 10, [some 20, some 21, some 22, some 23, some 24, some 25, none, none]) := rfl
theorem sh20 {zn : Nat} : (zSH zn)[20]? = some (0, 200, []) := rfl
theorem sh21 {zn : Nat} : (zSH zn)[21]? = some (0, 19, []) := rfl
theorem sh22 {zn : Nat} : (zSH zn)[22]? = some (0, 19, []) := rfl
theorem sh23 {zn : Nat} : (zSH zn)[23]? = some (0, 19, []) := rfl
theorem sh24 {zn : Nat} : (zSH zn)[24]? = some (0, 19, []) := rfl
theorem sh25 {zn : Nat} : (zSH zn)[25]? = some (0, 13, []) := rfl
theorem sh26 {zn : Nat} : (zSH zn)[26]? = some (3, 5, [some 27, none, none, none, none]) := rfl
theorem sh27 {zn : Nat} : (zSH zn)[27]? = some (3, 10, [some 28, some 29, some 30, some 31, some 32, some 33, none, none]) := rfl
theorem sh28 {zn : Nat} : (zSH zn)[28]? = some (0, 200, []) := rfl
theorem sh29 {zn : Nat} : (zSH zn)[29]? = some (0, 19, []) := rfl
theorem sh30 {zn : Nat} : (zSH zn)[30]? = some (0, 19, []) := rfl
theorem sh31 {zn : Nat} : (zSH zn)[31]? = some (0, 19, []) := rfl
theorem sh32 {zn : Nat} : (zSH zn)[32]? = some (0, 19, []) := rfl
theorem sh33 {zn : Nat} : (zSH zn)[33]? = some (0, 13, []) := rfl
theorem sh34 {zn : Nat} : (zSH zn)[34]? = some (3, 6, [some 35, some 36, none, none]) := rfl
theorem sh35 {zn : Nat} : (zSH zn)[35]? = some (0, 19, []) := rfl
theorem sh36 {zn : Nat} : (zSH zn)[36]? = some (0, 18, []) := rfl
theorem sh37 {zn : Nat} : (zSH zn)[37]? = some (3, 4, [some 38, some 39, some 40, some 41, some 42]) := rfl
theorem sh38 {zn : Nat} : (zSH zn)[38]? = some (1, 19, []) := rfl
theorem sh39 {zn : Nat} : (zSH zn)[39]? = some (1, 19, []) := rfl
theorem sh40 {zn : Nat} : (zSH zn)[40]? = some (1, 19, []) := rfl
theorem sh41 {zn : Nat} : (zSH zn)[41]? = some (1, 19, []) := rfl
theorem sh42 {zn : Nat} : (zSH zn)[42]? = some (1, 18, []) := rfl
theorem sh43 {zn : Nat} : (zSH zn)[43]? = some (3, 4, [some 44, some 45, some 46, some 47, some 48]) := rfl
theorem sh44 {zn : Nat} : (zSH zn)[44]? = some (1, 19, []) := rfl
theorem sh45 {zn : Nat} : (zSH zn)[45]? = some (1, 19, []) := rfl
theorem sh46 {zn : Nat} : (zSH zn)[46]? = some (1, 19, []) := rfl
theorem sh47 {zn : Nat} : (zSH zn)[47]? = some (1, 19, []) := rfl
theorem sh48 {zn : Nat} : (zSH zn)[48]? = some (1, 18, []) := rfl
theorem sh49 {zn : Nat} : (zSH zn)[49]? = some (3, 4, [some 50, some 51, some 52, some 53, some 54]) := rfl
theorem sh50 {zn : Nat} : (zSH zn)[50]? = some (1, 19, []) := rfl
theorem sh51 {zn : Nat} : (zSH zn)[51]? = some (1, 19, []) := rfl
theorem sh52 {zn : Nat} : (zSH zn)[52]? = some (1, 19, []) := rfl
theorem sh53 {zn : Nat} : (zSH zn)[53]? = some (1, 19, []) := rfl
theorem sh54 {zn : Nat} : (zSH zn)[54]? = some (1, 18, []) := rfl
theorem sh55 {zn : Nat} : (zSH zn)[55]? = some (3, 2, [some 56, some 57, some 58]) := rfl
theorem sh56 {zn : Nat} : (zSH zn)[56]? = some (0, 7, []) := rfl
theorem sh57 {zn : Nat} : (zSH zn)[57]? = some (0, 7, []) := rfl
theorem sh58 {zn : Nat} : (zSH zn)[58]? = some (0, 5, []) := rfl
theorem sh59 {zn : Nat} : (zSH zn)[59]? = some (3, 0, [some 60, some 61]) := rfl
theorem sh60 {zn : Nat} : (zSH zn)[60]? = some (0, 18, []) := rfl
theorem sh61 {zn : Nat} : (zSH zn)[61]? = some (0, 18, []) := rfl
theorem sh62 {zn : Nat} : (zSH zn)[62]? = some (3, 8, [some 63, some 64, some 65, some 66]) := rfl
theorem sh63 {zn : Nat} : (zSH zn)[63]? = some (0, 19, []) := rfl
theorem sh64 {zn : Nat} : (zSH zn)[64]? = some (0, 19, []) := rfl
theorem sh65 {zn : Nat} : (zSH zn)[65]? = some (0, 18, []) := rfl
theorem sh66 {zn : Nat} : (zSH zn)[66]? = some (0, 18, []) := rfl
theorem sh67 {zn : Nat} : (zSH zn)[67]? = some (3, 1, [some 68, some 69, none, none, some 70, none, none, some 71, some 72]) := rfl
theorem sh68 {zn : Nat} : (zSH zn)[68]? = some (0, 7, []) := rfl
theorem sh69 {zn : Nat} : (zSH zn)[69]? = some (0, 8, []) := rfl
theorem sh70 {zn : Nat} : (zSH zn)[70]? = some (0, 7, []) := rfl
theorem sh71 {zn : Nat} : (zSH zn)[71]? = some (0, 7, []) := rfl
theorem sh72 {zn : Nat} : (zSH zn)[72]? = some (0, 8, []) := rfl
theorem sh73 {zn : Nat} : (zSH zn)[73]? = some (3, 9, [some 74, some 75, none, some 76, some 77, some 83]) := rfl
theorem sh74 {zn : Nat} : (zSH zn)[74]? = some (0, 10, []) := rfl
theorem sh75 {zn : Nat} : (zSH zn)[75]? = some (0, 10, []) := rfl
theorem sh76 {zn : Nat} : (zSH zn)[76]? = some (1, 10, []) := rfl
theorem sh77 {zn : Nat} : (zSH zn)[77]? = some (3, 4, [some 78, some 79, some 80, some 81, some 82]) := rfl
theorem sh78 {zn : Nat} : (zSH zn)[78]? = some (1, 19, []) := rfl
theorem sh79 {zn : Nat} : (zSH zn)[79]? = some (1, 19, []) := rfl
theorem sh80 {zn : Nat} : (zSH zn)[80]? = some (1, 19, []) := rfl
theorem sh81 {zn : Nat} : (zSH zn)[81]? = some (1, 19, []) := rfl
theorem sh82 {zn : Nat} : (zSH zn)[82]? = some (1, 18, []) := rfl
theorem sh83 {zn : Nat} : (zSH zn)[83]? = some (1, 19, []) := rfl
theorem sh84 {zn : Nat} : (zSH zn)[84]? = some (2, 2, [some 85, some 100]) := rfl
theorem sh85 {zn : Nat} : (zSH zn)[85]? = some (3, 3, [some 86, some 93, none, none, none]) := rfl
theorem sh86 {zn : Nat} : (zSH zn)[86]? = some (3, 10, [some 87, some 88, some 89, some 90, some 91, some 92, none, none]) := rfl
theorem sh87 {zn : Nat} : (zSH zn)[87]? = some (0, 200, []) := rfl
theorem sh88 {zn : Nat} : (zSH zn)[88]? = some (0, 19, []) := rfl
theorem sh89 {zn : Nat} : (zSH zn)[89]? = some (0, 19, []) := rfl
theorem sh90 {zn : Nat} : (zSH zn)[90]? = some (0, 19, []) := rfl
theorem sh91 {zn : Nat} : (zSH zn)[91]? = some (0, 19, []) := rfl
theorem sh92 {zn : Nat} : (zSH zn)[92]? = some (0, 13, []) := rfl
theorem sh93 {zn : Nat} : (zSH zn)[93]? = some (3, 10, [some 94, some 95, some 96, some 97, some 98, some 99, none, none]) := rfl
theorem sh94 {zn : Nat} : (zSH zn)[94]? = some (0, 200, []) := rfl
theorem sh95 {zn : Nat} : (zSH zn)[95]? = some (0, 19, []) := rfl
theorem sh96 {zn : Nat} : (zSH zn)[96]? = some (0, 19, []) := rfl
theorem sh97 {zn : Nat} : (zSH zn)[97]? = some (0, 19, []) := rfl
theorem sh98 {zn : Nat} : (zSH zn)[98]? = some (0, 19, []) := rfl
theorem sh99 {zn : Nat} : (zSH zn)[99]? = some (0, 13, []) := rfl
theorem sh100 {zn : Nat} : (zSH zn)[100]? = some (3, 3, [some 101, some 108, none, none, none]) := rfl
theorem sh101 {zn : Nat} : (zSH zn)[101]? = some (3, 10, [some 102, some 103, some 104, some 105, some 106, some 107, none, none]) := rfl
theorem sh102 {zn : Nat} : (zSH zn)[102]? = some (0, 200, []) := rfl
theorem sh103 {zn : Nat} : (zSH zn)[103]? = some (0, 19, []) := rfl
theorem sh104 {zn : Nat} : (zSH zn)[104]? = some (0, 19, []) := rfl
theorem sh105 {zn : Nat} : (zSH zn)[105]? = some (0, 19, []) := rfl
theorem sh106 {zn : Nat} : (zSH zn)[106]? = some (0, 19, []) := rfl
theorem sh107 {zn : Nat} : (zSH zn)[107]? = some (0, 13, []) := rfl
theorem sh108 {zn : Nat} : (zSH zn)[108]? = some (3, 10, [some 109, some 110, some 111, some 112, some 113, some 114, none, none]) := rfl
theorem sh109 {zn : Nat} : (zSH zn)[109]? = some (0, 200, []) := rfl
theorem sh110 {zn : Nat} : (zSH zn)[110]? = some (0, 19, []) := rfl
theorem sh111 {zn : Nat} : (zSH zn)[111]? = some (0, 19, []) := rfl
theorem sh112 {zn : Nat} : (zSH zn)[112]? = some (0, 19, []) := rfl
theorem sh113 {zn : Nat} : (zSH zn)[113]? = some (0, 19, []) := rfl
theorem sh114 {zn : Nat} : (zSH zn)[114]? = some (0, 13, []) := rfl
theorem sh115 {zn : Nat} : (zSH zn)[115]? = some (3, 12, [some 116, some 117, some 118, some 119, some 120, some 121, some 122, some 123, some 124, some 125, some 126, none, none, some 127, some 128, some 129, some 130, some 131, none, none, some 132, some 133, some 134, some 135, some 136, some 137, some 138, none, some 139, none, some 140, some 141, some 142, none, some 143, some 144, some 145, none, some 146, some 147]) := rfl
theorem sh116 {zn : Nat} : (zSH zn)[116]? = some (0, 400, []) := rfl
theorem sh117 {zn : Nat} : (zSH zn)[117]? = some (0, 2, []) := rfl
theorem sh118 {zn : Nat} : (zSH zn)[118]? = some (0, 1400, []) := rfl
theorem sh119 {zn : Nat} : (zSH zn)[119]? = some (0, 133, []) := rfl
theorem sh120 {zn : Nat} : (zSH zn)[120]? = some (0, 133, []) := rfl
theorem sh121 {zn : Nat} : (zSH zn)[121]? = some (0, 7, []) := rfl
theorem sh122 {zn : Nat} : (zSH zn)[122]? = some (0, 63, []) := rfl
theorem sh123 {zn : Nat} : (zSH zn)[123]? = some (0, 7, []) := rfl
theorem sh124 {zn : Nat} : (zSH zn)[124]? = some (0, 12, []) := rfl
theorem sh125 {zn : Nat} : (zSH zn)[125]? = some (0, 3, []) := rfl
theorem sh126 {zn : Nat} : (zSH zn)[126]? = some (0, 3, []) := rfl
theorem sh127 {zn : Nat} : (zSH zn)[127]? = some (0, 7, []) := rfl
theorem sh128 {zn : Nat} : (zSH zn)[128]? = some (0, 7, []) := rfl
theorem sh129 {zn : Nat} : (zSH zn)[129]? = some (0, 5, []) := rfl
theorem sh130 {zn : Nat} : (zSH zn)[130]? = some (0, 19, []) := rfl
theorem sh131 {zn : Nat} : (zSH zn)[131]? = some (0, 10, []) := rfl
theorem sh132 {zn : Nat} : (zSH zn)[132]? = some (0, 19, []) := rfl
theorem sh133 {zn : Nat} : (zSH zn)[133]? = some (0, 10, []) := rfl
theorem sh134 {zn : Nat} : (zSH zn)[134]? = some (0, 10, []) := rfl
theorem sh135 {zn : Nat} : (zSH zn)[135]? = some (0, 19, []) := rfl
theorem sh136 {zn : Nat} : (zSH zn)[136]? = some (0, 19, []) := rfl
theorem sh137 {zn : Nat} : (zSH zn)[137]? = some (0, 10, []) := rfl
theorem sh138 {zn : Nat} : (zSH zn)[138]? = some (0, 10, []) := rfl
theorem sh139 {zn : Nat} : (zSH zn)[139]? = some (0, 7, []) := rfl
theorem sh140 {zn : Nat} : (zSH zn)[140]? = some (0, 8, []) := rfl
theorem sh141 {zn : Nat} : (zSH zn)[141]? = some (0, 7, []) := rfl
theorem sh142 {zn : Nat} : (zSH zn)[142]? = some (0, 7, []) := rfl
theorem sh143 {zn : Nat} : (zSH zn)[143]? = some (0, 10, []) := rfl
theorem sh144 {zn : Nat} : (zSH zn)[144]? = some (0, 10, []) := rfl
theorem sh145 {zn : Nat} : (zSH zn)[145]? = some (1, 10, []) := rfl
theorem sh146 {zn : Nat} : (zSH zn)[146]? = some (0, 39, []) := rfl
theorem sh147 {zn : Nat} : (zSH zn)[147]? = some (0, 39, []) := rfl
abbrev zLM (zn : Nat) : Nat × Nat := ((zSH zn).length, zcost (zSH zn))
def isX3 (k : Nat) : Prop := k ∈ ([85, 100] : List Nat)
theorem isX3_85 : isX3 85 := by unfold isX3; decide
theorem isX3_100 : isX3 100 := by unfold isX3; decide
theorem isX3_c {k : Nat} (h : isX3 k) : k = 85 ∨ k = 100 := by simpa [isX3] using h
theorem shX3 {zn k : Nat} (h : isX3 k) : (zSH zn)[k]? = some (3, 3, [some (k + 1), some (k + 8), none, none, none]) := by rcases isX3_c h with rfl | rfl <;> rfl
theorem geX3 {k : Nat} (h : isX3 k) : 5 ≤ k := by rcases isX3_c h with rfl | rfl <;> decide
theorem isX3_f0 {k : Nat} (h : isX3 k) : isX10 (k + 1) := by rcases isX3_c h with rfl | rfl <;> (unfold isX10; decide)
theorem isX3_f1 {k : Nat} (h : isX3 k) : isX10 (k + 8) := by rcases isX3_c h with rfl | rfl <;> (unfold isX10; decide)
def isX4 (k : Nat) : Prop := k ∈ ([37, 43, 49, 77] : List Nat)
theorem isX4_37 : isX4 37 := by unfold isX4; decide
theorem isX4_43 : isX4 43 := by unfold isX4; decide
theorem isX4_49 : isX4 49 := by unfold isX4; decide
theorem isX4_77 : isX4 77 := by unfold isX4; decide
theorem isX4_c {k : Nat} (h : isX4 k) : k = 37 ∨ k = 43 ∨ k = 49 ∨ k = 77 := by simpa [isX4] using h
theorem shX4 {zn k : Nat} (h : isX4 k) : (zSH zn)[k]? = some (3, 4, [some (k + 1), some (k + 2), some (k + 3), some (k + 4), some (k + 5)]) := by rcases isX4_c h with rfl | rfl | rfl | rfl <;> rfl
theorem geX4 {k : Nat} (h : isX4 k) : 5 ≤ k := by rcases isX4_c h with rfl | rfl | rfl | rfl <;> decide
theorem shX4_0 {zn k : Nat} (h : isX4 k) : (zSH zn)[k + 1]? = some (1, 19, []) := by rcases isX4_c h with rfl | rfl | rfl | rfl <;> rfl
theorem geX4_0 {k : Nat} (h : isX4 k) : 5 ≤ k + 1 := Nat.le_trans (geX4 h) (Nat.le_add_right _ _)
theorem shX4_1 {zn k : Nat} (h : isX4 k) : (zSH zn)[k + 2]? = some (1, 19, []) := by rcases isX4_c h with rfl | rfl | rfl | rfl <;> rfl
theorem geX4_1 {k : Nat} (h : isX4 k) : 5 ≤ k + 2 := Nat.le_trans (geX4 h) (Nat.le_add_right _ _)
theorem shX4_2 {zn k : Nat} (h : isX4 k) : (zSH zn)[k + 3]? = some (1, 19, []) := by rcases isX4_c h with rfl | rfl | rfl | rfl <;> rfl
theorem geX4_2 {k : Nat} (h : isX4 k) : 5 ≤ k + 3 := Nat.le_trans (geX4 h) (Nat.le_add_right _ _)
theorem shX4_3 {zn k : Nat} (h : isX4 k) : (zSH zn)[k + 4]? = some (1, 19, []) := by rcases isX4_c h with rfl | rfl | rfl | rfl <;> rfl
theorem geX4_3 {k : Nat} (h : isX4 k) : 5 ≤ k + 4 := Nat.le_trans (geX4 h) (Nat.le_add_right _ _)
theorem shX4_4 {zn k : Nat} (h : isX4 k) : (zSH zn)[k + 5]? = some (1, 18, []) := by rcases isX4_c h with rfl | rfl | rfl | rfl <;> rfl
theorem geX4_4 {k : Nat} (h : isX4 k) : 5 ≤ k + 5 := Nat.le_trans (geX4 h) (Nat.le_add_right _ _)
def isX7 (k : Nat) : Prop := k ∈ ([7, 9] : List Nat)
theorem isX7_7 : isX7 7 := by unfold isX7; decide
theorem isX7_9 : isX7 9 := by unfold isX7; decide
theorem isX7_c {k : Nat} (h : isX7 k) : k = 7 ∨ k = 9 := by simpa [isX7] using h
theorem shX7 {zn k : Nat} (h : isX7 k) : (zSH zn)[k]? = some (3, 7, [some (k + 1), none]) := by rcases isX7_c h with rfl | rfl <;> rfl
theorem geX7 {k : Nat} (h : isX7 k) : 5 ≤ k := by rcases isX7_c h with rfl | rfl <;> decide
theorem shX7_0 {zn k : Nat} (h : isX7 k) : (zSH zn)[k + 1]? = some (0, 200, []) := by rcases isX7_c h with rfl | rfl <;> rfl
theorem geX7_0 {k : Nat} (h : isX7 k) : 5 ≤ k + 1 := Nat.le_trans (geX7 h) (Nat.le_add_right _ _)
def isX10 (k : Nat) : Prop := k ∈ ([12, 19, 27, 86, 93, 101, 108] : List Nat)
theorem isX10_12 : isX10 12 := by unfold isX10; decide
theorem isX10_19 : isX10 19 := by unfold isX10; decide
theorem isX10_27 : isX10 27 := by unfold isX10; decide
theorem isX10_86 : isX10 86 := by unfold isX10; decide
theorem isX10_93 : isX10 93 := by unfold isX10; decide
theorem isX10_101 : isX10 101 := by unfold isX10; decide
theorem isX10_108 : isX10 108 := by unfold isX10; decide
theorem isX10_c {k : Nat} (h : isX10 k) : k = 12 ∨ k = 19 ∨ k = 27 ∨ k = 86 ∨ k = 93 ∨ k = 101 ∨ k = 108 := by simpa [isX10] using h
theorem shX10 {zn k : Nat} (h : isX10 k) : (zSH zn)[k]? = some (3, 10, [some (k + 1), some (k + 2), some (k + 3), some (k + 4), some (k + 5), some (k + 6), none, none]) := by rcases isX10_c h with rfl | rfl | rfl | rfl | rfl | rfl | rfl <;> rfl
theorem geX10 {k : Nat} (h : isX10 k) : 5 ≤ k := by rcases isX10_c h with rfl | rfl | rfl | rfl | rfl | rfl | rfl <;> decide
theorem shX10_0 {zn k : Nat} (h : isX10 k) : (zSH zn)[k + 1]? = some (0, 200, []) := by rcases isX10_c h with rfl | rfl | rfl | rfl | rfl | rfl | rfl <;> rfl
theorem geX10_0 {k : Nat} (h : isX10 k) : 5 ≤ k + 1 := Nat.le_trans (geX10 h) (Nat.le_add_right _ _)
theorem shX10_1 {zn k : Nat} (h : isX10 k) : (zSH zn)[k + 2]? = some (0, 19, []) := by rcases isX10_c h with rfl | rfl | rfl | rfl | rfl | rfl | rfl <;> rfl
theorem geX10_1 {k : Nat} (h : isX10 k) : 5 ≤ k + 2 := Nat.le_trans (geX10 h) (Nat.le_add_right _ _)
theorem shX10_2 {zn k : Nat} (h : isX10 k) : (zSH zn)[k + 3]? = some (0, 19, []) := by rcases isX10_c h with rfl | rfl | rfl | rfl | rfl | rfl | rfl <;> rfl
theorem geX10_2 {k : Nat} (h : isX10 k) : 5 ≤ k + 3 := Nat.le_trans (geX10 h) (Nat.le_add_right _ _)
theorem shX10_3 {zn k : Nat} (h : isX10 k) : (zSH zn)[k + 4]? = some (0, 19, []) := by rcases isX10_c h with rfl | rfl | rfl | rfl | rfl | rfl | rfl <;> rfl
theorem geX10_3 {k : Nat} (h : isX10 k) : 5 ≤ k + 4 := Nat.le_trans (geX10 h) (Nat.le_add_right _ _)
theorem shX10_4 {zn k : Nat} (h : isX10 k) : (zSH zn)[k + 5]? = some (0, 19, []) := by rcases isX10_c h with rfl | rfl | rfl | rfl | rfl | rfl | rfl <;> rfl
theorem geX10_4 {k : Nat} (h : isX10 k) : 5 ≤ k + 5 := Nat.le_trans (geX10 h) (Nat.le_add_right _ _)
theorem shX10_5 {zn k : Nat} (h : isX10 k) : (zSH zn)[k + 6]? = some (0, 13, []) := by rcases isX10_c h with rfl | rfl | rfl | rfl | rfl | rfl | rfl <;> rfl
theorem geX10_5 {k : Nat} (h : isX10 k) : 5 ≤ k + 6 := Nat.le_trans (geX10 h) (Nat.le_add_right _ _)
theorem ar6 {i : Int32} (h : vp_in i 2) : isX7 (7 + 2 * i.toNatClampNeg) := by
  have h1 : i.toNatClampNeg < 2 := Nat.not_le.mp fun q => h (Or.inr q)
  unfold isX7
  rcases (show i.toNatClampNeg = 0 ∨ i.toNatClampNeg = 1 by omega) with e | e <;> rw [e] <;> decide
theorem ae6 {i : Int32} (h : vp_in i 2) : ([some 7, some 9] : List (Option Nat))[i.toNatClampNeg]? = some (some (7 + 2 * i.toNatClampNeg)) := by
  have h1 : i.toNatClampNeg < 2 := Nat.not_le.mp fun q => h (Or.inr q)
  rcases (show i.toNatClampNeg = 0 ∨ i.toNatClampNeg = 1 by omega) with e | e <;> rw [e] <;> rfl
theorem ar11 {i : Int32} (h : vp_in i 2) : isX10 (12 + 7 * i.toNatClampNeg) := by
  have h1 : i.toNatClampNeg < 2 := Nat.not_le.mp fun q => h (Or.inr q)
  unfold isX10
  rcases (show i.toNatClampNeg = 0 ∨ i.toNatClampNeg = 1 by omega) with e | e <;> rw [e] <;> decide
theorem ae11 {i : Int32} (h : vp_in i 2) : ([some 12, some 19] : List (Option Nat))[i.toNatClampNeg]? = some (some (12 + 7 * i.toNatClampNeg)) := by
  have h1 : i.toNatClampNeg < 2 := Nat.not_le.mp fun q => h (Or.inr q)
  rcases (show i.toNatClampNeg = 0 ∨ i.toNatClampNeg = 1 by omega) with e | e <;> rw [e] <;> rfl
theorem ar84 {i : Int32} (h : vp_in i 2) : isX3 (85 + 15 * i.toNatClampNeg) := by
  have h1 : i.toNatClampNeg < 2 := Nat.not_le.mp fun q => h (Or.inr q)
  unfold isX3
  rcases (show i.toNatClampNeg = 0 ∨ i.toNatClampNeg = 1 by omega) with e | e <;> rw [e] <;> decide
theorem ae84 {i : Int32} (h : vp_in i 2) : ([some 85, some 100] : List (Option Nat))[i.toNatClampNeg]? = some (some (85 + 15 * i.toNatClampNeg)) := by
  have h1 : i.toNatClampNeg < 2 := Nat.not_le.mp fun q => h (Or.inr q)
  rcases (show i.toNatClampNeg = 0 ∨ i.toNatClampNeg = 1 by omega) with e | e <;> rw [e] <;> rfl
