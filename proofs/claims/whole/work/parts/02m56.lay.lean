theorem L0 {a b : Nat} {R : gR} {S : gS} (h : gLay a b R S) (h1 : a ≤ 0) (h2 : 0 < b) : S[0]? = some (10, 8) := h.1 0 h1 h2
theorem L1 {a b : Nat} {R : gR} {S : gS} (h : gLay a b R S) (h1 : a ≤ 1) (h2 : 1 < b) : S[1]? = some (14, 8) := h.1 1 h1 h2
theorem L2 {a b : Nat} {R : gR} {S : gS} (h : gLay a b R S) (h1 : a ≤ 2) (h2 : 2 < b) : S[2]? = some (15, 10) := h.1 2 h1 h2
theorem L3 {a b : Nat} {R : gR} {S : gS} (h : gLay a b R S) (h1 : a ≤ 3) (h2 : 3 < b) : S[3]? = some (9, 2) := h.1 3 h1 h2
theorem L4 {a b : Nat} {R : gR} {S : gS} (h : gLay a b R S) (h1 : a ≤ 4) (h2 : 4 < b) : S[4]? = some (12, 16) := h.1 4 h1 h2
theorem L5 {a b : Nat} {R : gR} {S : gS} (h : gLay a b R S) (h1 : a ≤ 5) (h2 : 5 < b) : S[5]? = some (12, 5) := h.1 5 h1 h2
theorem L6 {a b : Nat} {R : gR} {S : gS} (h : gLay a b R S) (h1 : a ≤ 6) (h2 : 6 < b) : S[6]? = some (2, 8) := h.1 6 h1 h2
theorem L7 {a b : Nat} {R : gR} {S : gS} (h : gLay a b R S) (h1 : a ≤ 7) (h2 : 7 < b) : S[7]? = some (12, 8) := h.1 7 h1 h2
theorem L8 {a b : Nat} {R : gR} {S : gS} (h : gLay a b R S) (h1 : a ≤ 8) (h2 : 8 < b) : S[8]? = some (12, 6) := h.1 8 h1 h2
theorem L9 {a b : Nat} {R : gR} {S : gS} (h : gLay a b R S) (h1 : a ≤ 9) (h2 : 9 < b) : S[9]? = some (13, 6) := h.1 9 h1 h2
theorem L10 {a b : Nat} {R : gR} {S : gS} (h : gLay a b R S) (h1 : a ≤ 10) (h2 : 10 < b) : S[10]? = some (12, 6) := h.1 10 h1 h2
theorem L11 {a b : Nat} {R : gR} {S : gS} (h : gLay a b R S) (h1 : a ≤ 11) (h2 : 11 < b) : S[11]? = some (12, 6) := h.1 11 h1 h2
theorem L12 {a b : Nat} {R : gR} {S : gS} (h : gLay a b R S) (h1 : a ≤ 12) (h2 : 12 < b) : S[12]? = some (12, 6) := h.1 12 h1 h2
theorem L13 {a b : Nat} {R : gR} {S : gS} (h : gLay a b R S) (h1 : a ≤ 13) (h2 : 13 < b) : S[13]? = some (12, 6) := h.1 13 h1 h2
theorem L14 {a b : Nat} {R : gR} {S : gS} (h : gLay a b R S) (h1 : a ≤ 14) (h2 : 14 < b) : S[14]? = some (12, 6) := h.1 14 h1 h2
theorem L15 {a b : Nat} {R : gR} {S : gS} (h : gLay a b R S) (h1 : a ≤ 15) (h2 : 15 < b) : S[15]? = some (12, 6) := h.1 15 h1 h2
theorem L16 {a b : Nat} {R : gR} {S : gS} (h : gLay a b R S) (h1 : a ≤ 16) (h2 : 16 < b) : S[16]? = some (12, 12) := h.1 16 h1 h2
theorem L17 {a b : Nat} {R : gR} {S : gS} (h : gLay a b R S) (h1 : a ≤ 17) (h2 : 17 < b) : S[17]? = some (6, 10) := h.1 17 h1 h2
theorem L18 {a b : Nat} {R : gR} {S : gS} (h : gLay a b R S) (h1 : a ≤ 18) (h2 : 18 < b) : S[18]? = some (12, 36) := h.1 18 h1 h2
theorem L19 {a b : Nat} {R : gR} {S : gS} (h : gLay a b R S) (h1 : a ≤ 19) (h2 : 19 < b) : S[19]? = some (12, 7) := h.1 19 h1 h2
theorem L20 {a b : Nat} {R : gR} {S : gS} (h : gLay a b R S) (h1 : a ≤ 20) (h2 : 20 < b) : S[20]? = some (13, 7) := h.1 20 h1 h2
theorem L21 {a b : Nat} {R : gR} {S : gS} (h : gLay a b R S) (h1 : a ≤ 21) (h2 : 21 < b) : S[21]? = some (12, 36) := h.1 21 h1 h2
theorem L22 {a b : Nat} {R : gR} {S : gS} (h : gLay a b R S) (h1 : a ≤ 22) (h2 : 22 < b) : S[22]? = some (12, 36) := h.1 22 h1 h2
theorem L23 {a b : Nat} {R : gR} {S : gS} (h : gLay a b R S) (h1 : a ≤ 23) (h2 : 23 < b) : S[23]? = some (12, 36) := h.1 23 h1 h2
theorem L24 {a b : Nat} {R : gR} {S : gS} (h : gLay a b R S) (h1 : a ≤ 24) (h2 : 24 < b) : S[24]? = some (12, 36) := h.1 24 h1 h2
theorem L25 {a b : Nat} {R : gR} {S : gS} (h : gLay a b R S) (h1 : a ≤ 25) (h2 : 25 < b) : S[25]? = some (12, 36) := h.1 25 h1 h2
theorem L26 {a b : Nat} {R : gR} {S : gS} (h : gLay a b R S) (h1 : a ≤ 26) (h2 : 26 < b) : S[26]? = some (12, 36) := h.1 26 h1 h2
theorem L27 {a b : Nat} {R : gR} {S : gS} (h : gLay a b R S) (h1 : a ≤ 27) (h2 : 27 < b) : S[27]? = some (12, 36) := h.1 27 h1 h2
theorem L28 {a b : Nat} {R : gR} {S : gS} (h : gLay a b R S) (h1 : a ≤ 28) (h2 : 28 < b) : S[28]? = some (13, 7) := h.1 28 h1 h2
theorem L29 {a b : Nat} {R : gR} {S : gS} (h : gLay a b R S) (h1 : a ≤ 29) (h2 : 29 < b) : S[29]? = some (12, 7) := h.1 29 h1 h2
theorem L30 {a b : Nat} {R : gR} {S : gS} (h : gLay a b R S) (h1 : a ≤ 30) (h2 : 30 < b) : S[30]? = some (12, 7) := h.1 30 h1 h2
theorem L31 {a b : Nat} {R : gR} {S : gS} (h : gLay a b R S) (h1 : a ≤ 31) (h2 : 31 < b) : S[31]? = some (12, 7) := h.1 31 h1 h2
theorem L32 {a b : Nat} {R : gR} {S : gS} (h : gLay a b R S) (h1 : a ≤ 32) (h2 : 32 < b) : S[32]? = some (12, 7) := h.1 32 h1 h2
theorem L33 {a b : Nat} {R : gR} {S : gS} (h : gLay a b R S) (h1 : a ≤ 33) (h2 : 33 < b) : S[33]? = some (12, 7) := h.1 33 h1 h2
theorem L34 {a b : Nat} {R : gR} {S : gS} (h : gLay a b R S) (h1 : a ≤ 34) (h2 : 34 < b) : S[34]? = some (12, 7) := h.1 34 h1 h2
theorem L35 {a b : Nat} {R : gR} {S : gS} (h : gLay a b R S) (h1 : a ≤ 35) (h2 : 35 < b) : S[35]? = some (12, 7) := h.1 35 h1 h2
theorem L36 {a b : Nat} {R : gR} {S : gS} (h : gLay a b R S) (h1 : a ≤ 36) (h2 : 36 < b) : S[36]? = some (12, 7) := h.1 36 h1 h2
theorem L37 {a b : Nat} {R : gR} {S : gS} (h : gLay a b R S) (h1 : a ≤ 37) (h2 : 37 < b) : S[37]? = some (8, 10) := h.1 37 h1 h2
theorem L38 {a b : Nat} {R : gR} {S : gS} (h : gLay a b R S) (h1 : a ≤ 38) (h2 : 38 < b) : S[38]? = some (13, 7) := h.1 38 h1 h2
theorem L39 {a b : Nat} {R : gR} {S : gS} (h : gLay a b R S) (h1 : a ≤ 39) (h2 : 39 < b) : S[39]? = some (12, 19) := h.1 39 h1 h2
theorem L40 {a b : Nat} {R : gR} {S : gS} (h : gLay a b R S) (h1 : a ≤ 40) (h2 : 40 < b) : S[40]? = some (12, 19) := h.1 40 h1 h2
theorem L41 {a b : Nat} {R : gR} {S : gS} (h : gLay a b R S) (h1 : a ≤ 41) (h2 : 41 < b) : S[41]? = some (12, 19) := h.1 41 h1 h2
theorem L42 {a b : Nat} {R : gR} {S : gS} (h : gLay a b R S) (h1 : a ≤ 42) (h2 : 42 < b) : S[42]? = some (12, 19) := h.1 42 h1 h2
theorem L43 {a b : Nat} {R : gR} {S : gS} (h : gLay a b R S) (h1 : a ≤ 43) (h2 : 43 < b) : S[43]? = some (12, 19) := h.1 43 h1 h2
theorem L44 {a b : Nat} {R : gR} {S : gS} (h : gLay a b R S) (h1 : a ≤ 44) (h2 : 44 < b) : S[44]? = some (12, 19) := h.1 44 h1 h2
theorem L45 {a b : Nat} {R : gR} {S : gS} (h : gLay a b R S) (h1 : a ≤ 45) (h2 : 45 < b) : S[45]? = some (12, 19) := h.1 45 h1 h2
theorem L46 {a b : Nat} {R : gR} {S : gS} (h : gLay a b R S) (h1 : a ≤ 46) (h2 : 46 < b) : S[46]? = some (12, 19) := h.1 46 h1 h2
theorem L47 {a b : Nat} {R : gR} {S : gS} (h : gLay a b R S) (h1 : a ≤ 47) (h2 : 47 < b) : S[47]? = some (13, 6) := h.1 47 h1 h2
theorem L48 {a b : Nat} {R : gR} {S : gS} (h : gLay a b R S) (h1 : a ≤ 48) (h2 : 48 < b) : S[48]? = some (12, 6) := h.1 48 h1 h2
theorem L49 {a b : Nat} {R : gR} {S : gS} (h : gLay a b R S) (h1 : a ≤ 49) (h2 : 49 < b) : S[49]? = some (12, 6) := h.1 49 h1 h2
theorem L50 {a b : Nat} {R : gR} {S : gS} (h : gLay a b R S) (h1 : a ≤ 50) (h2 : 50 < b) : S[50]? = some (12, 6) := h.1 50 h1 h2
theorem L51 {a b : Nat} {R : gR} {S : gS} (h : gLay a b R S) (h1 : a ≤ 51) (h2 : 51 < b) : S[51]? = some (12, 6) := h.1 51 h1 h2
theorem L52 {a b : Nat} {R : gR} {S : gS} (h : gLay a b R S) (h1 : a ≤ 52) (h2 : 52 < b) : S[52]? = some (12, 6) := h.1 52 h1 h2
theorem L53 {a b : Nat} {R : gR} {S : gS} (h : gLay a b R S) (h1 : a ≤ 53) (h2 : 53 < b) : S[53]? = some (12, 6) := h.1 53 h1 h2
theorem L54 {a b : Nat} {R : gR} {S : gS} (h : gLay a b R S) (h1 : a ≤ 54) (h2 : 54 < b) : S[54]? = some (12, 19) := h.1 54 h1 h2
theorem L55 {a b : Nat} {R : gR} {S : gS} (h : gLay a b R S) (h1 : a ≤ 55) (h2 : 55 < b) : S[55]? = some (12, 19) := h.1 55 h1 h2
theorem L56 {a b : Nat} {R : gR} {S : gS} (h : gLay a b R S) (h1 : a ≤ 56) (h2 : 56 < b) : S[56]? = some (0, 12) := h.1 56 h1 h2
theorem L57 {a b : Nat} {R : gR} {S : gS} (h : gLay a b R S) (h1 : a ≤ 57) (h2 : 57 < b) : S[57]? = some (13, 6) := h.1 57 h1 h2
theorem L58 {a b : Nat} {R : gR} {S : gS} (h : gLay a b R S) (h1 : a ≤ 58) (h2 : 58 < b) : S[58]? = some (12, 6) := h.1 58 h1 h2
theorem L59 {a b : Nat} {R : gR} {S : gS} (h : gLay a b R S) (h1 : a ≤ 59) (h2 : 59 < b) : S[59]? = some (12, 6) := h.1 59 h1 h2
theorem L60 {a b : Nat} {R : gR} {S : gS} (h : gLay a b R S) (h1 : a ≤ 60) (h2 : 60 < b) : S[60]? = some (12, 6) := h.1 60 h1 h2
theorem L61 {a b : Nat} {R : gR} {S : gS} (h : gLay a b R S) (h1 : a ≤ 61) (h2 : 61 < b) : S[61]? = some (12, 6) := h.1 61 h1 h2
theorem L62 {a b : Nat} {R : gR} {S : gS} (h : gLay a b R S) (h1 : a ≤ 62) (h2 : 62 < b) : S[62]? = some (12, 6) := h.1 62 h1 h2
theorem L63 {a b : Nat} {R : gR} {S : gS} (h : gLay a b R S) (h1 : a ≤ 63) (h2 : 63 < b) : S[63]? = some (12, 6) := h.1 63 h1 h2
theorem L64 {a b : Nat} {R : gR} {S : gS} (h : gLay a b R S) (h1 : a ≤ 64) (h2 : 64 < b) : S[64]? = some (13, 6) := h.1 64 h1 h2
theorem L65 {a b : Nat} {R : gR} {S : gS} (h : gLay a b R S) (h1 : a ≤ 65) (h2 : 65 < b) : S[65]? = some (12, 6) := h.1 65 h1 h2
theorem L66 {a b : Nat} {R : gR} {S : gS} (h : gLay a b R S) (h1 : a ≤ 66) (h2 : 66 < b) : S[66]? = some (12, 6) := h.1 66 h1 h2
theorem L67 {a b : Nat} {R : gR} {S : gS} (h : gLay a b R S) (h1 : a ≤ 67) (h2 : 67 < b) : S[67]? = some (12, 6) := h.1 67 h1 h2
theorem L68 {a b : Nat} {R : gR} {S : gS} (h : gLay a b R S) (h1 : a ≤ 68) (h2 : 68 < b) : S[68]? = some (12, 6) := h.1 68 h1 h2
theorem L69 {a b : Nat} {R : gR} {S : gS} (h : gLay a b R S) (h1 : a ≤ 69) (h2 : 69 < b) : S[69]? = some (12, 6) := h.1 69 h1 h2
theorem L70 {a b : Nat} {R : gR} {S : gS} (h : gLay a b R S) (h1 : a ≤ 70) (h2 : 70 < b) : S[70]? = some (12, 6) := h.1 70 h1 h2
theorem L71 {a b : Nat} {R : gR} {S : gS} (h : gLay a b R S) (h1 : a ≤ 71) (h2 : 71 < b) : S[71]? = some (12, 6) := h.1 71 h1 h2
theorem L72 {a b : Nat} {R : gR} {S : gS} (h : gLay a b R S) (h1 : a ≤ 72) (h2 : 72 < b) : S[72]? = some (12, 6) := h.1 72 h1 h2
theorem L73 {a b : Nat} {R : gR} {S : gS} (h : gLay a b R S) (h1 : a ≤ 73) (h2 : 73 < b) : S[73]? = some (12, 6) := h.1 73 h1 h2
theorem L74 {a b : Nat} {R : gR} {S : gS} (h : gLay a b R S) (h1 : a ≤ 74) (h2 : 74 < b) : S[74]? = some (12, 6) := h.1 74 h1 h2
theorem L75 {a b : Nat} {R : gR} {S : gS} (h : gLay a b R S) (h1 : a ≤ 75) (h2 : 75 < b) : S[75]? = some (5, 3) := h.1 75 h1 h2
theorem L76 {a b : Nat} {R : gR} {S : gS} (h : gLay a b R S) (h1 : a ≤ 76) (h2 : 76 < b) : S[76]? = some (12, 24) := h.1 76 h1 h2
theorem L77 {a b : Nat} {R : gR} {S : gS} (h : gLay a b R S) (h1 : a ≤ 77) (h2 : 77 < b) : S[77]? = some (5, 3) := h.1 77 h1 h2
theorem L78 {a b : Nat} {R : gR} {S : gS} (h : gLay a b R S) (h1 : a ≤ 78) (h2 : 78 < b) : S[78]? = some (12, 24) := h.1 78 h1 h2
theorem L79 {a b : Nat} {R : gR} {S : gS} (h : gLay a b R S) (h1 : a ≤ 79) (h2 : 79 < b) : S[79]? = some (5, 3) := h.1 79 h1 h2
theorem L80 {a b : Nat} {R : gR} {S : gS} (h : gLay a b R S) (h1 : a ≤ 80) (h2 : 80 < b) : S[80]? = some (12, 24) := h.1 80 h1 h2
theorem L81 {a b : Nat} {R : gR} {S : gS} (h : gLay a b R S) (h1 : a ≤ 81) (h2 : 81 < b) : S[81]? = some (5, 3) := h.1 81 h1 h2
theorem L82 {a b : Nat} {R : gR} {S : gS} (h : gLay a b R S) (h1 : a ≤ 82) (h2 : 82 < b) : S[82]? = some (12, 24) := h.1 82 h1 h2
theorem L83 {a b : Nat} {R : gR} {S : gS} (h : gLay a b R S) (h1 : a ≤ 83) (h2 : 83 < b) : S[83]? = some (5, 3) := h.1 83 h1 h2
theorem L84 {a b : Nat} {R : gR} {S : gS} (h : gLay a b R S) (h1 : a ≤ 84) (h2 : 84 < b) : S[84]? = some (12, 24) := h.1 84 h1 h2
theorem L85 {a b : Nat} {R : gR} {S : gS} (h : gLay a b R S) (h1 : a ≤ 85) (h2 : 85 < b) : S[85]? = some (5, 3) := h.1 85 h1 h2
theorem L86 {a b : Nat} {R : gR} {S : gS} (h : gLay a b R S) (h1 : a ≤ 86) (h2 : 86 < b) : S[86]? = some (12, 24) := h.1 86 h1 h2
theorem L87 {a b : Nat} {R : gR} {S : gS} (h : gLay a b R S) (h1 : a ≤ 87) (h2 : 87 < b) : S[87]? = some (5, 3) := h.1 87 h1 h2
theorem L88 {a b : Nat} {R : gR} {S : gS} (h : gLay a b R S) (h1 : a ≤ 88) (h2 : 88 < b) : S[88]? = some (12, 24) := h.1 88 h1 h2
theorem L89 {a b : Nat} {R : gR} {S : gS} (h : gLay a b R S) (h1 : a ≤ 89) (h2 : 89 < b) : S[89]? = some (5, 3) := h.1 89 h1 h2
theorem L90 {a b : Nat} {R : gR} {S : gS} (h : gLay a b R S) (h1 : a ≤ 90) (h2 : 90 < b) : S[90]? = some (12, 24) := h.1 90 h1 h2
theorem L91 {a b : Nat} {R : gR} {S : gS} (h : gLay a b R S) (h1 : a ≤ 91) (h2 : 91 < b) : S[91]? = some (11, 29) := h.1 91 h1 h2
theorem L92 {a b : Nat} {R : gR} {S : gS} (h : gLay a b R S) (h1 : a ≤ 92) (h2 : 92 < b) : S[92]? = some (12, 16) := h.1 92 h1 h2
theorem L93 {a b : Nat} {R : gR} {S : gS} (h : gLay a b R S) (h1 : a ≤ 93) (h2 : 93 < b) : S[93]? = some (12, 16) := h.1 93 h1 h2
theorem L94 {a b : Nat} {R : gR} {S : gS} (h : gLay a b R S) (h1 : a ≤ 94) (h2 : 94 < b) : S[94]? = some (12, 16) := h.1 94 h1 h2
theorem L95 {a b : Nat} {R : gR} {S : gS} (h : gLay a b R S) (h1 : a ≤ 95) (h2 : 95 < b) : S[95]? = some (12, 16) := h.1 95 h1 h2
theorem L96 {a b : Nat} {R : gR} {S : gS} (h : gLay a b R S) (h1 : a ≤ 96) (h2 : 96 < b) : S[96]? = some (12, 15625) := h.1 96 h1 h2
theorem L97 {a b : Nat} {R : gR} {S : gS} (h : gLay a b R S) (h1 : a ≤ 97) (h2 : 97 < b) : S[97]? = some (12, 15625) := h.1 97 h1 h2
theorem L98 {a b : Nat} {R : gR} {S : gS} (h : gLay a b R S) (h1 : a ≤ 98) (h2 : 98 < b) : S[98]? = some (12, 8) := h.1 98 h1 h2
theorem L99 {a b : Nat} {R : gR} {S : gS} (h : gLay a b R S) (h1 : a ≤ 99) (h2 : 99 < b) : S[99]? = some (12, 8) := h.1 99 h1 h2
theorem L100 {a b : Nat} {R : gR} {S : gS} (h : gLay a b R S) (h1 : a ≤ 100) (h2 : 100 < b) : S[100]? = some (12, 192) := h.1 100 h1 h2
theorem L101 {a b : Nat} {R : gR} {S : gS} (h : gLay a b R S) (h1 : a ≤ 101) (h2 : 101 < b) : S[101]? = some (12, 10) := h.1 101 h1 h2
theorem L102 {a b : Nat} {R : gR} {S : gS} (h : gLay a b R S) (h1 : a ≤ 102) (h2 : 102 < b) : S[102]? = some (12, 40) := h.1 102 h1 h2
theorem L103 {a b : Nat} {R : gR} {S : gS} (h : gLay a b R S) (h1 : a ≤ 103) (h2 : 103 < b) : S[103]? = some (12, 24) := h.1 103 h1 h2
theorem L104 {a b : Nat} {R : gR} {S : gS} (h : gLay a b R S) (h1 : a ≤ 104) (h2 : 104 < b) : S[104]? = some (12, 24) := h.1 104 h1 h2
theorem L105 {a b : Nat} {R : gR} {S : gS} (h : gLay a b R S) (h1 : a ≤ 105) (h2 : 105 < b) : S[105]? = some (12, 24) := h.1 105 h1 h2
theorem L106 {a b : Nat} {R : gR} {S : gS} (h : gLay a b R S) (h1 : a ≤ 106) (h2 : 106 < b) : S[106]? = some (12, 8) := h.1 106 h1 h2
theorem L107 {a b : Nat} {R : gR} {S : gS} (h : gLay a b R S) (h1 : a ≤ 107) (h2 : 107 < b) : S[107]? = some (12, 4) := h.1 107 h1 h2
theorem L108 {a b : Nat} {R : gR} {S : gS} (h : gLay a b R S) (h1 : a ≤ 108) (h2 : 108 < b) : S[108]? = some (12, 5) := h.1 108 h1 h2
theorem L109 {a b : Nat} {R : gR} {S : gS} (h : gLay a b R S) (h1 : a ≤ 109) (h2 : 109 < b) : S[109]? = some (12, 42) := h.1 109 h1 h2
theorem L110 {a b : Nat} {R : gR} {S : gS} (h : gLay a b R S) (h1 : a ≤ 110) (h2 : 110 < b) : S[110]? = some (12, 448) := h.1 110 h1 h2
theorem L111 {a b : Nat} {R : gR} {S : gS} (h : gLay a b R S) (h1 : a ≤ 111) (h2 : 111 < b) : S[111]? = some (12, 36) := h.1 111 h1 h2
theorem L112 {a b : Nat} {R : gR} {S : gS} (h : gLay a b R S) (h1 : a ≤ 112) (h2 : 112 < b) : S[112]? = some (12, 20) := h.1 112 h1 h2
theorem L113 {a b : Nat} {R : gR} {S : gS} (h : gLay a b R S) (h1 : a ≤ 113) (h2 : 113 < b) : S[113]? = some (12, 16) := h.1 113 h1 h2
theorem LR0_0 {a b : Nat} {R : gR} {S : gS} (h : gLay a b R S) (h1 : a ≤ 0) (h2 : 0 < b) : R 0 0 = some 6 := h.2 (0, 0, 6) (by decide) h1 h2
theorem LR0_1 {a b : Nat} {R : gR} {S : gS} (h : gLay a b R S) (h1 : a ≤ 0) (h2 : 0 < b) : R 0 1 = some 37 := h.2 (0, 1, 37) (by decide) h1 h2
theorem LR0_2 {a b : Nat} {R : gR} {S : gS} (h : gLay a b R S) (h1 : a ≤ 0) (h2 : 0 < b) : R 0 2 = some 56 := h.2 (0, 2, 56) (by decide) h1 h2
theorem LR0_3 {a b : Nat} {R : gR} {S : gS} (h : gLay a b R S) (h1 : a ≤ 0) (h2 : 0 < b) : R 0 3 = some 1 := h.2 (0, 3, 1) (by decide) h1 h2
theorem LR0_4 {a b : Nat} {R : gR} {S : gS} (h : gLay a b R S) (h1 : a ≤ 0) (h2 : 0 < b) : R 0 4 = some 2 := h.2 (0, 4, 2) (by decide) h1 h2
theorem LR0_5 {a b : Nat} {R : gR} {S : gS} (h : gLay a b R S) (h1 : a ≤ 0) (h2 : 0 < b) : R 0 5 = some 3 := h.2 (0, 5, 3) (by decide) h1 h2
theorem LR0_6 {a b : Nat} {R : gR} {S : gS} (h : gLay a b R S) (h1 : a ≤ 0) (h2 : 0 < b) : R 0 6 = some 5 := h.2 (0, 6, 5) (by decide) h1 h2
theorem LR3_0 {a b : Nat} {R : gR} {S : gS} (h : gLay a b R S) (h1 : a ≤ 3) (h2 : 3 < b) : R 3 0 = some 4 := h.2 (3, 0, 4) (by decide) h1 h2
theorem LR6_4 {a b : Nat} {R : gR} {S : gS} (h : gLay a b R S) (h1 : a ≤ 6) (h2 : 6 < b) : R 6 4 = some 7 := h.2 (6, 4, 7) (by decide) h1 h2
theorem LR6_5 {a b : Nat} {R : gR} {S : gS} (h : gLay a b R S) (h1 : a ≤ 6) (h2 : 6 < b) : R 6 5 = some 8 := h.2 (6, 5, 8) (by decide) h1 h2
theorem LR6_6 {a b : Nat} {R : gR} {S : gS} (h : gLay a b R S) (h1 : a ≤ 6) (h2 : 6 < b) : R 6 6 = some 9 := h.2 (6, 6, 9) (by decide) h1 h2
theorem LR6_7 {a b : Nat} {R : gR} {S : gS} (h : gLay a b R S) (h1 : a ≤ 6) (h2 : 6 < b) : R 6 7 = some 16 := h.2 (6, 7, 16) (by decide) h1 h2
theorem LR17_0 {a b : Nat} {R : gR} {S : gS} (h : gLay a b R S) (h1 : a ≤ 17) (h2 : 17 < b) : R 17 0 = some 6 := h.2 (17, 0, 6) (by decide) h1 h2
theorem LR17_2 {a b : Nat} {R : gR} {S : gS} (h : gLay a b R S) (h1 : a ≤ 17) (h2 : 17 < b) : R 17 2 = some 18 := h.2 (17, 2, 18) (by decide) h1 h2
theorem LR17_3 {a b : Nat} {R : gR} {S : gS} (h : gLay a b R S) (h1 : a ≤ 17) (h2 : 17 < b) : R 17 3 = some 19 := h.2 (17, 3, 19) (by decide) h1 h2
theorem LR17_4 {a b : Nat} {R : gR} {S : gS} (h : gLay a b R S) (h1 : a ≤ 17) (h2 : 17 < b) : R 17 4 = some 20 := h.2 (17, 4, 20) (by decide) h1 h2
theorem LR17_5 {a b : Nat} {R : gR} {S : gS} (h : gLay a b R S) (h1 : a ≤ 17) (h2 : 17 < b) : R 17 5 = some 28 := h.2 (17, 5, 28) (by decide) h1 h2
theorem LR17_6 {a b : Nat} {R : gR} {S : gS} (h : gLay a b R S) (h1 : a ≤ 17) (h2 : 17 < b) : R 17 6 = some 36 := h.2 (17, 6, 36) (by decide) h1 h2
theorem LR37_0 {a b : Nat} {R : gR} {S : gS} (h : gLay a b R S) (h1 : a ≤ 37) (h2 : 37 < b) : R 37 0 = some 6 := h.2 (37, 0, 6) (by decide) h1 h2
theorem LR37_1 {a b : Nat} {R : gR} {S : gS} (h : gLay a b R S) (h1 : a ≤ 37) (h2 : 37 < b) : R 37 1 = some 17 := h.2 (37, 1, 17) (by decide) h1 h2
theorem LR37_3 {a b : Nat} {R : gR} {S : gS} (h : gLay a b R S) (h1 : a ≤ 37) (h2 : 37 < b) : R 37 3 = some 38 := h.2 (37, 3, 38) (by decide) h1 h2
theorem LR37_6 {a b : Nat} {R : gR} {S : gS} (h : gLay a b R S) (h1 : a ≤ 37) (h2 : 37 < b) : R 37 6 = some 46 := h.2 (37, 6, 46) (by decide) h1 h2
theorem LR37_7 {a b : Nat} {R : gR} {S : gS} (h : gLay a b R S) (h1 : a ≤ 37) (h2 : 37 < b) : R 37 7 = some 47 := h.2 (37, 7, 47) (by decide) h1 h2
theorem LR37_8 {a b : Nat} {R : gR} {S : gS} (h : gLay a b R S) (h1 : a ≤ 37) (h2 : 37 < b) : R 37 8 = some 54 := h.2 (37, 8, 54) (by decide) h1 h2
theorem LR37_9 {a b : Nat} {R : gR} {S : gS} (h : gLay a b R S) (h1 : a ≤ 37) (h2 : 37 < b) : R 37 9 = some 55 := h.2 (37, 9, 55) (by decide) h1 h2
theorem LR56_0 {a b : Nat} {R : gR} {S : gS} (h : gLay a b R S) (h1 : a ≤ 56) (h2 : 56 < b) : R 56 0 = some 6 := h.2 (56, 0, 6) (by decide) h1 h2
theorem LR56_1 {a b : Nat} {R : gR} {S : gS} (h : gLay a b R S) (h1 : a ≤ 56) (h2 : 56 < b) : R 56 1 = some 17 := h.2 (56, 1, 17) (by decide) h1 h2
theorem LR56_4 {a b : Nat} {R : gR} {S : gS} (h : gLay a b R S) (h1 : a ≤ 56) (h2 : 56 < b) : R 56 4 = some 57 := h.2 (56, 4, 57) (by decide) h1 h2
theorem LR56_6 {a b : Nat} {R : gR} {S : gS} (h : gLay a b R S) (h1 : a ≤ 56) (h2 : 56 < b) : R 56 6 = some 64 := h.2 (56, 6, 64) (by decide) h1 h2
theorem LR56_7 {a b : Nat} {R : gR} {S : gS} (h : gLay a b R S) (h1 : a ≤ 56) (h2 : 56 < b) : R 56 7 = some 71 := h.2 (56, 7, 71) (by decide) h1 h2
theorem LR56_8 {a b : Nat} {R : gR} {S : gS} (h : gLay a b R S) (h1 : a ≤ 56) (h2 : 56 < b) : R 56 8 = some 72 := h.2 (56, 8, 72) (by decide) h1 h2
theorem LR56_9 {a b : Nat} {R : gR} {S : gS} (h : gLay a b R S) (h1 : a ≤ 56) (h2 : 56 < b) : R 56 9 = some 73 := h.2 (56, 9, 73) (by decide) h1 h2
theorem LR56_10 {a b : Nat} {R : gR} {S : gS} (h : gLay a b R S) (h1 : a ≤ 56) (h2 : 56 < b) : R 56 10 = some 74 := h.2 (56, 10, 74) (by decide) h1 h2
theorem LR75_0 {a b : Nat} {R : gR} {S : gS} (h : gLay a b R S) (h1 : a ≤ 75) (h2 : 75 < b) : R 75 0 = some 76 := h.2 (75, 0, 76) (by decide) h1 h2
theorem LR77_0 {a b : Nat} {R : gR} {S : gS} (h : gLay a b R S) (h1 : a ≤ 77) (h2 : 77 < b) : R 77 0 = some 78 := h.2 (77, 0, 78) (by decide) h1 h2
theorem LR79_0 {a b : Nat} {R : gR} {S : gS} (h : gLay a b R S) (h1 : a ≤ 79) (h2 : 79 < b) : R 79 0 = some 80 := h.2 (79, 0, 80) (by decide) h1 h2
theorem LR81_0 {a b : Nat} {R : gR} {S : gS} (h : gLay a b R S) (h1 : a ≤ 81) (h2 : 81 < b) : R 81 0 = some 82 := h.2 (81, 0, 82) (by decide) h1 h2
theorem LR83_0 {a b : Nat} {R : gR} {S : gS} (h : gLay a b R S) (h1 : a ≤ 83) (h2 : 83 < b) : R 83 0 = some 84 := h.2 (83, 0, 84) (by decide) h1 h2
theorem LR85_0 {a b : Nat} {R : gR} {S : gS} (h : gLay a b R S) (h1 : a ≤ 85) (h2 : 85 < b) : R 85 0 = some 86 := h.2 (85, 0, 86) (by decide) h1 h2
theorem LR87_0 {a b : Nat} {R : gR} {S : gS} (h : gLay a b R S) (h1 : a ≤ 87) (h2 : 87 < b) : R 87 0 = some 88 := h.2 (87, 0, 88) (by decide) h1 h2
theorem LR89_0 {a b : Nat} {R : gR} {S : gS} (h : gLay a b R S) (h1 : a ≤ 89) (h2 : 89 < b) : R 89 0 = some 90 := h.2 (89, 0, 90) (by decide) h1 h2
theorem LR91_6 {a b : Nat} {R : gR} {S : gS} (h : gLay a b R S) (h1 : a ≤ 91) (h2 : 91 < b) : R 91 6 = some 92 := h.2 (91, 6, 92) (by decide) h1 h2
theorem LR91_7 {a b : Nat} {R : gR} {S : gS} (h : gLay a b R S) (h1 : a ≤ 91) (h2 : 91 < b) : R 91 7 = some 93 := h.2 (91, 7, 93) (by decide) h1 h2
theorem LR91_8 {a b : Nat} {R : gR} {S : gS} (h : gLay a b R S) (h1 : a ≤ 91) (h2 : 91 < b) : R 91 8 = some 94 := h.2 (91, 8, 94) (by decide) h1 h2
theorem LR91_9 {a b : Nat} {R : gR} {S : gS} (h : gLay a b R S) (h1 : a ≤ 91) (h2 : 91 < b) : R 91 9 = some 95 := h.2 (91, 9, 95) (by decide) h1 h2
theorem LR91_10 {a b : Nat} {R : gR} {S : gS} (h : gLay a b R S) (h1 : a ≤ 91) (h2 : 91 < b) : R 91 10 = some 96 := h.2 (91, 10, 96) (by decide) h1 h2
theorem LR91_11 {a b : Nat} {R : gR} {S : gS} (h : gLay a b R S) (h1 : a ≤ 91) (h2 : 91 < b) : R 91 11 = some 97 := h.2 (91, 11, 97) (by decide) h1 h2
theorem LR91_12 {a b : Nat} {R : gR} {S : gS} (h : gLay a b R S) (h1 : a ≤ 91) (h2 : 91 < b) : R 91 12 = some 98 := h.2 (91, 12, 98) (by decide) h1 h2
theorem LR91_13 {a b : Nat} {R : gR} {S : gS} (h : gLay a b R S) (h1 : a ≤ 91) (h2 : 91 < b) : R 91 13 = some 99 := h.2 (91, 13, 99) (by decide) h1 h2
theorem LR91_14 {a b : Nat} {R : gR} {S : gS} (h : gLay a b R S) (h1 : a ≤ 91) (h2 : 91 < b) : R 91 14 = some 100 := h.2 (91, 14, 100) (by decide) h1 h2
theorem LR91_15 {a b : Nat} {R : gR} {S : gS} (h : gLay a b R S) (h1 : a ≤ 91) (h2 : 91 < b) : R 91 15 = some 101 := h.2 (91, 15, 101) (by decide) h1 h2
theorem LR91_16 {a b : Nat} {R : gR} {S : gS} (h : gLay a b R S) (h1 : a ≤ 91) (h2 : 91 < b) : R 91 16 = some 102 := h.2 (91, 16, 102) (by decide) h1 h2
theorem LR91_17 {a b : Nat} {R : gR} {S : gS} (h : gLay a b R S) (h1 : a ≤ 91) (h2 : 91 < b) : R 91 17 = some 103 := h.2 (91, 17, 103) (by decide) h1 h2
theorem LR91_18 {a b : Nat} {R : gR} {S : gS} (h : gLay a b R S) (h1 : a ≤ 91) (h2 : 91 < b) : R 91 18 = some 104 := h.2 (91, 18, 104) (by decide) h1 h2
theorem LR91_19 {a b : Nat} {R : gR} {S : gS} (h : gLay a b R S) (h1 : a ≤ 91) (h2 : 91 < b) : R 91 19 = some 105 := h.2 (91, 19, 105) (by decide) h1 h2
theorem LR91_20 {a b : Nat} {R : gR} {S : gS} (h : gLay a b R S) (h1 : a ≤ 91) (h2 : 91 < b) : R 91 20 = some 106 := h.2 (91, 20, 106) (by decide) h1 h2
theorem LR91_21 {a b : Nat} {R : gR} {S : gS} (h : gLay a b R S) (h1 : a ≤ 91) (h2 : 91 < b) : R 91 21 = some 107 := h.2 (91, 21, 107) (by decide) h1 h2
theorem LR91_22 {a b : Nat} {R : gR} {S : gS} (h : gLay a b R S) (h1 : a ≤ 91) (h2 : 91 < b) : R 91 22 = some 108 := h.2 (91, 22, 108) (by decide) h1 h2
theorem LR91_23 {a b : Nat} {R : gR} {S : gS} (h : gLay a b R S) (h1 : a ≤ 91) (h2 : 91 < b) : R 91 23 = some 109 := h.2 (91, 23, 109) (by decide) h1 h2
theorem LR91_24 {a b : Nat} {R : gR} {S : gS} (h : gLay a b R S) (h1 : a ≤ 91) (h2 : 91 < b) : R 91 24 = some 110 := h.2 (91, 24, 110) (by decide) h1 h2
theorem LR91_25 {a b : Nat} {R : gR} {S : gS} (h : gLay a b R S) (h1 : a ≤ 91) (h2 : 91 < b) : R 91 25 = some 111 := h.2 (91, 25, 111) (by decide) h1 h2
theorem LR91_26 {a b : Nat} {R : gR} {S : gS} (h : gLay a b R S) (h1 : a ≤ 91) (h2 : 91 < b) : R 91 26 = some 112 := h.2 (91, 26, 112) (by decide) h1 h2
theorem LR91_27 {a b : Nat} {R : gR} {S : gS} (h : gLay a b R S) (h1 : a ≤ 91) (h2 : 91 < b) : R 91 27 = some 113 := h.2 (91, 27, 113) (by decide) h1 h2
theorem LG1 {a b : Nat} {R : gR} {S : gS} (h : gLay a b R S) (h1 : a ≤ 1) (h2 : 1 < b) {j : Nat} (hj : j < 8) : R 1 j = some (75 + 2 * j) := by
  have : ∀ j, j < 8 → (1, j, 75 + 2 * j) ∈ layR := by decide
  exact h.2 (1, j, 75 + 2 * j) (this j hj) h1 h2
theorem LH1 {a b : Nat} {R : gR} {S : gS} (h : gLay a b R S) (h1 : a ≤ 75) (h2 : 90 < b) {j : Nat} (hj : j < 8) : S[75 + 2 * j]? = some (5, 3) ∧ R (75 + 2 * j) 0 = some (75 + 2 * j + 1) ∧ S[75 + 2 * j + 1]? = some (12, 24) := by
  refine ⟨?_, ?_, ?_⟩
  · rw [h.1 (75 + 2 * j) (by omega) (by omega)]
    have : ∀ j, j < 8 → layS[75 + 2 * j]? = some (5, 3) := by decide
    exact this j hj
  · have : ∀ j, j < 8 → (75 + 2 * j, 0, 75 + 2 * j + 1) ∈ layR := by decide
    exact h.2 (75 + 2 * j, 0, 75 + 2 * j + 1) (this j hj) (by show a ≤ 75 + 2 * j; omega) (by show 75 + 2 * j < b; omega)
  · rw [h.1 (75 + 2 * j + 1) (by omega) (by omega)]
    have : ∀ j, j < 8 → layS[75 + 2 * j + 1]? = some (12, 24) := by decide
    exact this j hj
theorem LG9 {a b : Nat} {R : gR} {S : gS} (h : gLay a b R S) (h1 : a ≤ 9) (h2 : 9 < b) {j : Nat} (hj : j < 6) : R 9 j = some (10 + j) := by
  have : ∀ j, j < 6 → (9, j, 10 + j) ∈ layR := by decide
  exact h.2 (9, j, 10 + j) (this j hj) h1 h2
theorem LH9 {a b : Nat} {R : gR} {S : gS} (h : gLay a b R S) (h1 : a ≤ 9) (h2 : 15 < b) {j : Nat} (hj : j < 6) : S[10 + j]? = some (12, 6) := by
  rw [h.1 (10 + j) (by omega) (by omega)]
  have : ∀ j, j < 6 → layS[10 + j]? = some (12, 6) := by decide
  exact this j hj
theorem LG20 {a b : Nat} {R : gR} {S : gS} (h : gLay a b R S) (h1 : a ≤ 20) (h2 : 20 < b) {j : Nat} (hj : j < 7) : R 20 j = some (21 + j) := by
  have : ∀ j, j < 7 → (20, j, 21 + j) ∈ layR := by decide
  exact h.2 (20, j, 21 + j) (this j hj) h1 h2
theorem LH20 {a b : Nat} {R : gR} {S : gS} (h : gLay a b R S) (h1 : a ≤ 20) (h2 : 27 < b) {j : Nat} (hj : j < 7) : S[21 + j]? = some (12, 36) := by
  rw [h.1 (21 + j) (by omega) (by omega)]
  have : ∀ j, j < 7 → layS[21 + j]? = some (12, 36) := by decide
  exact this j hj
theorem LG28 {a b : Nat} {R : gR} {S : gS} (h : gLay a b R S) (h1 : a ≤ 28) (h2 : 28 < b) {j : Nat} (hj : j < 7) : R 28 j = some (29 + j) := by
  have : ∀ j, j < 7 → (28, j, 29 + j) ∈ layR := by decide
  exact h.2 (28, j, 29 + j) (this j hj) h1 h2
theorem LH28 {a b : Nat} {R : gR} {S : gS} (h : gLay a b R S) (h1 : a ≤ 28) (h2 : 35 < b) {j : Nat} (hj : j < 7) : S[29 + j]? = some (12, 7) := by
  rw [h.1 (29 + j) (by omega) (by omega)]
  have : ∀ j, j < 7 → layS[29 + j]? = some (12, 7) := by decide
  exact this j hj
theorem LG38 {a b : Nat} {R : gR} {S : gS} (h : gLay a b R S) (h1 : a ≤ 38) (h2 : 38 < b) {j : Nat} (hj : j < 7) : R 38 j = some (39 + j) := by
  have : ∀ j, j < 7 → (38, j, 39 + j) ∈ layR := by decide
  exact h.2 (38, j, 39 + j) (this j hj) h1 h2
theorem LH38 {a b : Nat} {R : gR} {S : gS} (h : gLay a b R S) (h1 : a ≤ 38) (h2 : 45 < b) {j : Nat} (hj : j < 7) : S[39 + j]? = some (12, 19) := by
  rw [h.1 (39 + j) (by omega) (by omega)]
  have : ∀ j, j < 7 → layS[39 + j]? = some (12, 19) := by decide
  exact this j hj
theorem LG47 {a b : Nat} {R : gR} {S : gS} (h : gLay a b R S) (h1 : a ≤ 47) (h2 : 47 < b) {j : Nat} (hj : j < 6) : R 47 j = some (48 + j) := by
  have : ∀ j, j < 6 → (47, j, 48 + j) ∈ layR := by decide
  exact h.2 (47, j, 48 + j) (this j hj) h1 h2
theorem LH47 {a b : Nat} {R : gR} {S : gS} (h : gLay a b R S) (h1 : a ≤ 47) (h2 : 53 < b) {j : Nat} (hj : j < 6) : S[48 + j]? = some (12, 6) := by
  rw [h.1 (48 + j) (by omega) (by omega)]
  have : ∀ j, j < 6 → layS[48 + j]? = some (12, 6) := by decide
  exact this j hj
theorem LG57 {a b : Nat} {R : gR} {S : gS} (h : gLay a b R S) (h1 : a ≤ 57) (h2 : 57 < b) {j : Nat} (hj : j < 6) : R 57 j = some (58 + j) := by
  have : ∀ j, j < 6 → (57, j, 58 + j) ∈ layR := by decide
  exact h.2 (57, j, 58 + j) (this j hj) h1 h2
theorem LH57 {a b : Nat} {R : gR} {S : gS} (h : gLay a b R S) (h1 : a ≤ 57) (h2 : 63 < b) {j : Nat} (hj : j < 6) : S[58 + j]? = some (12, 6) := by
  rw [h.1 (58 + j) (by omega) (by omega)]
  have : ∀ j, j < 6 → layS[58 + j]? = some (12, 6) := by decide
  exact this j hj
theorem LG64 {a b : Nat} {R : gR} {S : gS} (h : gLay a b R S) (h1 : a ≤ 64) (h2 : 64 < b) {j : Nat} (hj : j < 6) : R 64 j = some (65 + j) := by
  have : ∀ j, j < 6 → (64, j, 65 + j) ∈ layR := by decide
  exact h.2 (64, j, 65 + j) (this j hj) h1 h2
theorem LH64 {a b : Nat} {R : gR} {S : gS} (h : gLay a b R S) (h1 : a ≤ 64) (h2 : 70 < b) {j : Nat} (hj : j < 6) : S[65 + j]? = some (12, 6) := by
  rw [h.1 (65 + j) (by omega) (by omega)]
  have : ∀ j, j < 6 → layS[65 + j]? = some (12, 6) := by decide
  exact this j hj
theorem gy0 : gTy TX0 12 tyX0 := ⟨tyX0_ok, nmX0⟩
theorem gy1 : gTy TX1 4 tyX1 := ⟨tyX1_ok, nmX1⟩
theorem gy2 : gTy TX2 8 tyX2 := ⟨tyX2_ok, nmX2⟩
theorem gy3 : gTy TX3 4 tyX3 := ⟨tyX3_ok, nmX3⟩
theorem gy4 : gTy TX4 5 tyX4 := ⟨tyX4_ok, nmX4⟩
theorem gy5 : gTy TX5 3 tyX5 := ⟨tyX5_ok, nmX5⟩
theorem gy6 : gTy TX6 10 tyX6 := ⟨tyX6_ok, nmX6⟩
theorem gy7 : gTy TX7 5 tyX7 := ⟨tyX7_ok, nmX7⟩
theorem gy8 : gTy TX8 10 tyX8 := ⟨tyX8_ok, nmX8⟩
theorem gy9 : gTy TX9 2 tyX9 := ⟨tyX9_ok, nmX9⟩
theorem gy10 : gTy TX11 8 tyX11 := ⟨tyX11_ok, nmX11⟩
theorem gy11 : gTy TX12 29 tyX12 := ⟨tyX12_ok, nmX12⟩
