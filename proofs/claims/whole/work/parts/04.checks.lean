set_option maxRecDepth 100000 in
theorem tp_okp0 : (tp_prg 0).all (fun q => tp_okL 0 q.1 q.2) = true := by decide +kernel
set_option maxRecDepth 100000 in
theorem tp_okp1 : (tp_prg 1).all (fun q => tp_okL 1 q.1 q.2) = true := by decide +kernel
set_option maxRecDepth 100000 in
theorem tp_okp2 : (tp_prg 2).all (fun q => tp_okL 2 q.1 q.2) = true := by decide +kernel
set_option maxRecDepth 100000 in
theorem tp_okp3 : (tp_prg 3).all (fun q => tp_okL 3 q.1 q.2) = true := by decide +kernel
set_option maxRecDepth 100000 in
theorem tp_okp4 : (tp_prg 4).all (fun q => tp_okL 4 q.1 q.2) = true := by decide +kernel
set_option maxRecDepth 100000 in
theorem tp_okp5 : (tp_prg 5).all (fun q => tp_okL 5 q.1 q.2) = true := by decide +kernel
set_option maxRecDepth 100000 in
theorem tp_okp6 : (tp_prg 6).all (fun q => tp_okL 6 q.1 q.2) = true := by decide +kernel
set_option maxRecDepth 100000 in
theorem tp_okp7 : (tp_prg 7).all (fun q => tp_okL 7 q.1 q.2) = true := by decide +kernel
set_option maxRecDepth 100000 in
theorem tp_okp8 : (tp_prg 8).all (fun q => tp_okL 8 q.1 q.2) = true := by decide +kernel
set_option maxRecDepth 100000 in
theorem tp_okp9 : (tp_prg 9).all (fun q => tp_okL 9 q.1 q.2) = true := by decide +kernel
set_option maxRecDepth 100000 in
theorem tp_okp10 : (tp_prg 10).all (fun q => tp_okL 10 q.1 q.2) = true := by decide +kernel
set_option maxRecDepth 100000 in
theorem tp_okp11 : (tp_prg 11).all (fun q => tp_okL 11 q.1 q.2) = true := by decide +kernel
set_option maxRecDepth 100000 in
theorem tp_okp12 : (tp_prg 12).all (fun q => tp_okL 12 q.1 q.2) = true := by decide +kernel
set_option maxRecDepth 100000 in
theorem tp_okp13 : (tp_prg 13).all (fun q => tp_okL 13 q.1 q.2) = true := by decide +kernel
set_option maxRecDepth 100000 in
theorem tp_okp14 : (tp_prg 14).all (fun q => tp_okL 14 q.1 q.2) = true := by decide +kernel
set_option maxRecDepth 100000 in
theorem tp_okp15 : (tp_prg 15).all (fun q => tp_okL 15 q.1 q.2) = true := by decide +kernel
set_option maxRecDepth 100000 in
theorem tp_okp16 : (tp_prg 16).all (fun q => tp_okL 16 q.1 q.2) = true := by decide +kernel
set_option maxRecDepth 100000 in
theorem tp_okp17 : (tp_prg 17).all (fun q => tp_okL 17 q.1 q.2) = true := by decide +kernel
set_option maxRecDepth 100000 in
theorem tp_okp18 : (tp_prg 18).all (fun q => tp_okL 18 q.1 q.2) = true := by decide +kernel
set_option maxRecDepth 100000 in
theorem tp_okp19 : (tp_prg 19).all (fun q => tp_okL 19 q.1 q.2) = true := by decide +kernel
set_option maxRecDepth 100000 in
theorem tp_okp20 : (tp_prg 20).all (fun q => tp_okL 20 q.1 q.2) = true := by decide +kernel
set_option maxRecDepth 100000 in
theorem tp_okp21 : (tp_prg 21).all (fun q => tp_okL 21 q.1 q.2) = true := by decide +kernel
set_option maxRecDepth 100000 in
theorem tp_okp22 : (tp_prg 22).all (fun q => tp_okL 22 q.1 q.2) = true := by decide +kernel
set_option maxRecDepth 100000 in
theorem tp_okp23 : (tp_prg 23).all (fun q => tp_okL 23 q.1 q.2) = true := by decide +kernel
set_option maxRecDepth 100000 in
theorem tp_okp24 : (tp_prg 24).all (fun q => tp_okL 24 q.1 q.2) = true := by decide +kernel
set_option maxRecDepth 100000 in
theorem tp_okp25 : (tp_prg 25).all (fun q => tp_okL 25 q.1 q.2) = true := by decide +kernel
set_option maxRecDepth 100000 in
theorem tp_okp26 : (tp_prg 26).all (fun q => tp_okL 26 q.1 q.2) = true := by decide +kernel
set_option maxRecDepth 100000 in
theorem tp_okp27 : (tp_prg 27).all (fun q => tp_okL 27 q.1 q.2) = true := by decide +kernel
set_option maxRecDepth 100000 in
theorem tp_okp28 : (tp_prg 28).all (fun q => tp_okL 28 q.1 q.2) = true := by decide +kernel
set_option maxRecDepth 100000 in
theorem tp_okp29 : (tp_prg 29).all (fun q => tp_okL 29 q.1 q.2) = true := by decide +kernel
set_option maxRecDepth 100000 in
theorem tp_okp30 : (tp_prg 30).all (fun q => tp_okL 30 q.1 q.2) = true := by decide +kernel
set_option maxRecDepth 100000 in
theorem tp_okp31 : (tp_prg 31).all (fun q => tp_okL 31 q.1 q.2) = true := by decide +kernel
set_option maxRecDepth 100000 in
theorem tp_okp32 : (tp_prg 32).all (fun q => tp_okL 32 q.1 q.2) = true := by decide +kernel
set_option maxRecDepth 100000 in
theorem tp_okp33 : (tp_prg 33).all (fun q => tp_okL 33 q.1 q.2) = true := by decide +kernel
set_option maxRecDepth 100000 in
theorem tp_okp34 : (tp_prg 34).all (fun q => tp_okL 34 q.1 q.2) = true := by decide +kernel
set_option maxRecDepth 100000 in
theorem tp_okp35 : (tp_prg 35).all (fun q => tp_okL 35 q.1 q.2) = true := by decide +kernel
set_option maxRecDepth 100000 in
theorem tp_okp36 : (tp_prg 36).all (fun q => tp_okL 36 q.1 q.2) = true := by decide +kernel
set_option maxRecDepth 100000 in
theorem tp_okp37 : (tp_prg 37).all (fun q => tp_okL 37 q.1 q.2) = true := by decide +kernel
set_option maxRecDepth 100000 in
theorem tp_okp38 : (tp_prg 38).all (fun q => tp_okL 38 q.1 q.2) = true := by decide +kernel
set_option maxRecDepth 100000 in
theorem tp_okp39 : (tp_prg 39).all (fun q => tp_okL 39 q.1 q.2) = true := by decide +kernel
set_option maxRecDepth 100000 in
theorem tp_okp40 : (tp_prg 40).all (fun q => tp_okL 40 q.1 q.2) = true := by decide +kernel
set_option maxRecDepth 100000 in
theorem tp_okp41 : (tp_prg 41).all (fun q => tp_okL 41 q.1 q.2) = true := by decide +kernel
set_option maxRecDepth 100000 in
theorem tp_okp42 : (tp_prg 42).all (fun q => tp_okL 42 q.1 q.2) = true := by decide +kernel
set_option maxRecDepth 100000 in
theorem tp_okp43 : (tp_prg 43).all (fun q => tp_okL 43 q.1 q.2) = true := by decide +kernel
set_option maxRecDepth 100000 in
theorem tp_okp44 : (tp_prg 44).all (fun q => tp_okL 44 q.1 q.2) = true := by decide +kernel
set_option maxRecDepth 100000 in
theorem tp_okp45 : (tp_prg 45).all (fun q => tp_okL 45 q.1 q.2) = true := by decide +kernel
set_option maxRecDepth 100000 in
theorem tp_okp46 : (tp_prg 46).all (fun q => tp_okL 46 q.1 q.2) = true := by decide +kernel
set_option maxRecDepth 100000 in
theorem tp_okp47 : (tp_prg 47).all (fun q => tp_okL 47 q.1 q.2) = true := by decide +kernel
set_option maxRecDepth 100000 in
theorem tp_okp48 : (tp_prg 48).all (fun q => tp_okL 48 q.1 q.2) = true := by decide +kernel
set_option maxRecDepth 100000 in
theorem tp_okp49 : (tp_prg 49).all (fun q => tp_okL 49 q.1 q.2) = true := by decide +kernel
set_option maxRecDepth 100000 in
theorem tp_okp50 : (tp_prg 50).all (fun q => tp_okL 50 q.1 q.2) = true := by decide +kernel
set_option maxRecDepth 100000 in
theorem tp_okp51 : (tp_prg 51).all (fun q => tp_okL 51 q.1 q.2) = true := by decide +kernel
set_option maxRecDepth 100000 in
theorem tp_okp52 : (tp_prg 52).all (fun q => tp_okL 52 q.1 q.2) = true := by decide +kernel
set_option maxRecDepth 100000 in
theorem tp_okp53 : (tp_prg 53).all (fun q => tp_okL 53 q.1 q.2) = true := by decide +kernel
set_option maxRecDepth 100000 in
theorem tp_okp54 : (tp_prg 54).all (fun q => tp_okL 54 q.1 q.2) = true := by decide +kernel
set_option maxRecDepth 100000 in
theorem tp_okp55 : (tp_prg 55).all (fun q => tp_okL 55 q.1 q.2) = true := by decide +kernel
set_option maxRecDepth 100000 in
theorem tp_okp56 : (tp_prg 56).all (fun q => tp_okL 56 q.1 q.2) = true := by decide +kernel
set_option maxRecDepth 100000 in
theorem tp_okp57 : (tp_prg 57).all (fun q => tp_okL 57 q.1 q.2) = true := by decide +kernel
set_option maxRecDepth 100000 in
theorem tp_okp58 : (tp_prg 58).all (fun q => tp_okL 58 q.1 q.2) = true := by decide +kernel
set_option maxRecDepth 100000 in
theorem tp_okp59 : (tp_prg 59).all (fun q => tp_okL 59 q.1 q.2) = true := by decide +kernel
set_option maxRecDepth 100000 in
theorem tp_okp60 : (tp_prg 60).all (fun q => tp_okL 60 q.1 q.2) = true := by decide +kernel
set_option maxRecDepth 100000 in
theorem tp_okp61 : (tp_prg 61).all (fun q => tp_okL 61 q.1 q.2) = true := by decide +kernel
set_option maxRecDepth 100000 in
theorem tp_okp62 : (tp_prg 62).all (fun q => tp_okL 62 q.1 q.2) = true := by decide +kernel
set_option maxRecDepth 100000 in
theorem tp_okp63 : (tp_prg 63).all (fun q => tp_okL 63 q.1 q.2) = true := by decide +kernel
set_option maxRecDepth 100000 in
theorem tp_okp64 : (tp_prg 64).all (fun q => tp_okL 64 q.1 q.2) = true := by decide +kernel
set_option maxRecDepth 100000 in
theorem tp_okp65 : (tp_prg 65).all (fun q => tp_okL 65 q.1 q.2) = true := by decide +kernel
set_option maxRecDepth 100000 in
theorem tp_okp66 : (tp_prg 66).all (fun q => tp_okL 66 q.1 q.2) = true := by decide +kernel
set_option maxRecDepth 100000 in
theorem tp_okp67 : (tp_prg 67).all (fun q => tp_okL 67 q.1 q.2) = true := by decide +kernel
set_option maxRecDepth 100000 in
theorem tp_okp68 : (tp_prg 68).all (fun q => tp_okL 68 q.1 q.2) = true := by decide +kernel
set_option maxRecDepth 100000 in
theorem tp_okp69 : (tp_prg 69).all (fun q => tp_okL 69 q.1 q.2) = true := by decide +kernel
set_option maxRecDepth 100000 in
theorem tp_okp70 : (tp_prg 70).all (fun q => tp_okL 70 q.1 q.2) = true := by decide +kernel
set_option maxRecDepth 100000 in
theorem tp_okp71 : (tp_prg 71).all (fun q => tp_okL 71 q.1 q.2) = true := by decide +kernel
set_option maxRecDepth 100000 in
theorem tp_okp72 : (tp_prg 72).all (fun q => tp_okL 72 q.1 q.2) = true := by decide +kernel
set_option maxRecDepth 100000 in
theorem tp_okp73 : (tp_prg 73).all (fun q => tp_okL 73 q.1 q.2) = true := by decide +kernel
set_option maxRecDepth 100000 in
theorem tp_okp74 : (tp_prg 74).all (fun q => tp_okL 74 q.1 q.2) = true := by decide +kernel
set_option maxRecDepth 100000 in
theorem tp_okp75 : (tp_prg 75).all (fun q => tp_okL 75 q.1 q.2) = true := by decide +kernel
set_option maxRecDepth 100000 in
theorem tp_okp76 : (tp_prg 76).all (fun q => tp_okL 76 q.1 q.2) = true := by decide +kernel
set_option maxRecDepth 100000 in
theorem tp_okp77 : (tp_prg 77).all (fun q => tp_okL 77 q.1 q.2) = true := by decide +kernel
set_option maxRecDepth 100000 in
theorem tp_okp78 : (tp_prg 78).all (fun q => tp_okL 78 q.1 q.2) = true := by decide +kernel
set_option maxRecDepth 100000 in
theorem tp_okp79 : (tp_prg 79).all (fun q => tp_okL 79 q.1 q.2) = true := by decide +kernel
set_option maxRecDepth 100000 in
theorem tp_okp80 : (tp_prg 80).all (fun q => tp_okL 80 q.1 q.2) = true := by decide +kernel
set_option maxRecDepth 100000 in
theorem tp_okp81 : (tp_prg 81).all (fun q => tp_okL 81 q.1 q.2) = true := by decide +kernel
set_option maxRecDepth 100000 in
theorem tp_okp82 : (tp_prg 82).all (fun q => tp_okL 82 q.1 q.2) = true := by decide +kernel
set_option maxRecDepth 100000 in
theorem tp_okp83 : (tp_prg 83).all (fun q => tp_okL 83 q.1 q.2) = true := by decide +kernel
set_option maxRecDepth 100000 in
theorem tp_okp84 : (tp_prg 84).all (fun q => tp_okL 84 q.1 q.2) = true := by decide +kernel
set_option maxRecDepth 100000 in
theorem tp_okp85 : (tp_prg 85).all (fun q => tp_okL 85 q.1 q.2) = true := by decide +kernel
set_option maxRecDepth 100000 in
theorem tp_okp86 : (tp_prg 86).all (fun q => tp_okL 86 q.1 q.2) = true := by decide +kernel
set_option maxRecDepth 100000 in
theorem tp_okp87 : (tp_prg 87).all (fun q => tp_okL 87 q.1 q.2) = true := by decide +kernel
set_option maxRecDepth 100000 in
theorem tp_okp88 : (tp_prg 88).all (fun q => tp_okL 88 q.1 q.2) = true := by decide +kernel
set_option maxRecDepth 100000 in
theorem tp_okp89 : (tp_prg 89).all (fun q => tp_okL 89 q.1 q.2) = true := by decide +kernel
set_option maxRecDepth 100000 in
theorem tp_okp90 : (tp_prg 90).all (fun q => tp_okL 90 q.1 q.2) = true := by decide +kernel
set_option maxRecDepth 100000 in
theorem tp_okp91 : (tp_prg 91).all (fun q => tp_okL 91 q.1 q.2) = true := by decide +kernel
set_option maxRecDepth 100000 in
theorem tp_okp92 : (tp_prg 92).all (fun q => tp_okL 92 q.1 q.2) = true := by decide +kernel
set_option maxRecDepth 100000 in
theorem tp_okp93 : (tp_prg 93).all (fun q => tp_okL 93 q.1 q.2) = true := by decide +kernel
set_option maxRecDepth 100000 in
theorem tp_okp94 : (tp_prg 94).all (fun q => tp_okL 94 q.1 q.2) = true := by decide +kernel
set_option maxRecDepth 100000 in
theorem tp_okp95 : (tp_prg 95).all (fun q => tp_okL 95 q.1 q.2) = true := by decide +kernel
set_option maxRecDepth 100000 in
theorem tp_okp96 : (tp_prg 96).all (fun q => tp_okL 96 q.1 q.2) = true := by decide +kernel
set_option maxRecDepth 100000 in
theorem tp_okp97 : (tp_prg 97).all (fun q => tp_okL 97 q.1 q.2) = true := by decide +kernel
set_option maxRecDepth 100000 in
theorem tp_okp98 : (tp_prg 98).all (fun q => tp_okL 98 q.1 q.2) = true := by decide +kernel
set_option maxRecDepth 100000 in
theorem tp_okp99 : (tp_prg 99).all (fun q => tp_okL 99 q.1 q.2) = true := by decide +kernel
set_option maxRecDepth 100000 in
theorem tp_okp100 : (tp_prg 100).all (fun q => tp_okL 100 q.1 q.2) = true := by decide +kernel
set_option maxRecDepth 100000 in
theorem tp_okp101 : (tp_prg 101).all (fun q => tp_okL 101 q.1 q.2) = true := by decide +kernel
set_option maxRecDepth 100000 in
theorem tp_okp102 : (tp_prg 102).all (fun q => tp_okL 102 q.1 q.2) = true := by decide +kernel
set_option maxRecDepth 100000 in
theorem tp_okp103 : (tp_prg 103).all (fun q => tp_okL 103 q.1 q.2) = true := by decide +kernel
set_option maxRecDepth 100000 in
theorem tp_okp104 : (tp_prg 104).all (fun q => tp_okL 104 q.1 q.2) = true := by decide +kernel
set_option maxRecDepth 100000 in
theorem tp_okp105 : (tp_prg 105).all (fun q => tp_okL 105 q.1 q.2) = true := by decide +kernel
set_option maxRecDepth 100000 in
theorem tp_okp106 : (tp_prg 106).all (fun q => tp_okL 106 q.1 q.2) = true := by decide +kernel
set_option maxRecDepth 100000 in
theorem tp_okp107 : (tp_prg 107).all (fun q => tp_okL 107 q.1 q.2) = true := by decide +kernel
set_option maxRecDepth 100000 in
theorem tp_okp108 : (tp_prg 108).all (fun q => tp_okL 108 q.1 q.2) = true := by decide +kernel
set_option maxRecDepth 100000 in
theorem tp_okp109 : (tp_prg 109).all (fun q => tp_okL 109 q.1 q.2) = true := by decide +kernel
set_option maxRecDepth 100000 in
theorem tp_okp110 : (tp_prg 110).all (fun q => tp_okL 110 q.1 q.2) = true := by decide +kernel
set_option maxRecDepth 100000 in
theorem tp_okp111 : (tp_prg 111).all (fun q => tp_okL 111 q.1 q.2) = true := by decide +kernel
set_option maxRecDepth 100000 in
theorem tp_okp112 : (tp_prg 112).all (fun q => tp_okL 112 q.1 q.2) = true := by decide +kernel
set_option maxRecDepth 100000 in
theorem tp_okp113 : (tp_prg 113).all (fun q => tp_okL 113 q.1 q.2) = true := by decide +kernel
set_option maxRecDepth 100000 in
theorem tp_okp114 : (tp_prg 114).all (fun q => tp_okL 114 q.1 q.2) = true := by decide +kernel
set_option maxRecDepth 100000 in
theorem tp_okp115 : (tp_prg 115).all (fun q => tp_okL 115 q.1 q.2) = true := by decide +kernel
set_option maxRecDepth 100000 in
theorem tp_okp116 : (tp_prg 116).all (fun q => tp_okL 116 q.1 q.2) = true := by decide +kernel
set_option maxRecDepth 100000 in
theorem tp_okp117 : (tp_prg 117).all (fun q => tp_okL 117 q.1 q.2) = true := by decide +kernel
set_option maxRecDepth 100000 in
theorem tp_okp118 : (tp_prg 118).all (fun q => tp_okL 118 q.1 q.2) = true := by decide +kernel
set_option maxRecDepth 100000 in
theorem tp_okp119 : (tp_prg 119).all (fun q => tp_okL 119 q.1 q.2) = true := by decide +kernel
set_option maxRecDepth 100000 in
theorem tp_okp120 : (tp_prg 120).all (fun q => tp_okL 120 q.1 q.2) = true := by decide +kernel
set_option maxRecDepth 100000 in
theorem tp_okp121 : (tp_prg 121).all (fun q => tp_okL 121 q.1 q.2) = true := by decide +kernel
set_option maxRecDepth 100000 in
theorem tp_okp122 : (tp_prg 122).all (fun q => tp_okL 122 q.1 q.2) = true := by decide +kernel
set_option maxRecDepth 100000 in
theorem tp_okp123 : (tp_prg 123).all (fun q => tp_okL 123 q.1 q.2) = true := by decide +kernel
set_option maxRecDepth 100000 in
theorem tp_okp124 : (tp_prg 124).all (fun q => tp_okL 124 q.1 q.2) = true := by decide +kernel
set_option maxRecDepth 100000 in
theorem tp_okp125 : (tp_prg 125).all (fun q => tp_okL 125 q.1 q.2) = true := by decide +kernel
set_option maxRecDepth 100000 in
theorem tp_okp126 : (tp_prg 126).all (fun q => tp_okL 126 q.1 q.2) = true := by decide +kernel
set_option maxRecDepth 100000 in
theorem tp_okp127 : (tp_prg 127).all (fun q => tp_okL 127 q.1 q.2) = true := by decide +kernel
set_option maxRecDepth 100000 in
theorem tp_okp128 : (tp_prg 128).all (fun q => tp_okL 128 q.1 q.2) = true := by decide +kernel
set_option maxRecDepth 100000 in
theorem tp_okp129 : (tp_prg 129).all (fun q => tp_okL 129 q.1 q.2) = true := by decide +kernel
set_option maxRecDepth 100000 in
theorem tp_okp130 : (tp_prg 130).all (fun q => tp_okL 130 q.1 q.2) = true := by decide +kernel
set_option maxRecDepth 100000 in
theorem tp_okp131 : (tp_prg 131).all (fun q => tp_okL 131 q.1 q.2) = true := by decide +kernel
set_option maxRecDepth 100000 in
theorem tp_okp132 : (tp_prg 132).all (fun q => tp_okL 132 q.1 q.2) = true := by decide +kernel
set_option maxRecDepth 100000 in
theorem tp_okp133 : (tp_prg 133).all (fun q => tp_okL 133 q.1 q.2) = true := by decide +kernel
set_option maxRecDepth 100000 in
theorem tp_okp134 : (tp_prg 134).all (fun q => tp_okL 134 q.1 q.2) = true := by decide +kernel
set_option maxRecDepth 100000 in
theorem tp_okp135 : (tp_prg 135).all (fun q => tp_okL 135 q.1 q.2) = true := by decide +kernel
set_option maxRecDepth 100000 in
theorem tp_okp136 : (tp_prg 136).all (fun q => tp_okL 136 q.1 q.2) = true := by decide +kernel
set_option maxRecDepth 100000 in
theorem tp_okp137 : (tp_prg 137).all (fun q => tp_okL 137 q.1 q.2) = true := by decide +kernel
set_option maxRecDepth 100000 in
theorem tp_okp138 : (tp_prg 138).all (fun q => tp_okL 138 q.1 q.2) = true := by decide +kernel
set_option maxRecDepth 100000 in
theorem tp_okp139 : (tp_prg 139).all (fun q => tp_okL 139 q.1 q.2) = true := by decide +kernel
set_option maxRecDepth 100000 in
theorem tp_okp140 : (tp_prg 140).all (fun q => tp_okL 140 q.1 q.2) = true := by decide +kernel
set_option maxRecDepth 100000 in
theorem tp_okp141 : (tp_prg 141).all (fun q => tp_okL 141 q.1 q.2) = true := by decide +kernel
set_option maxRecDepth 100000 in
theorem tp_okp142 : (tp_prg 142).all (fun q => tp_okL 142 q.1 q.2) = true := by decide +kernel
set_option maxRecDepth 100000 in
theorem tp_okp143 : (tp_prg 143).all (fun q => tp_okL 143 q.1 q.2) = true := by decide +kernel
set_option maxRecDepth 100000 in
theorem tp_okp144 : (tp_prg 144).all (fun q => tp_okL 144 q.1 q.2) = true := by decide +kernel
set_option maxRecDepth 100000 in
theorem tp_okp145 : (tp_prg 145).all (fun q => tp_okL 145 q.1 q.2) = true := by decide +kernel
set_option maxRecDepth 100000 in
theorem tp_okp146 : (tp_prg 146).all (fun q => tp_okL 146 q.1 q.2) = true := by decide +kernel
set_option maxRecDepth 100000 in
theorem tp_okp147 : (tp_prg 147).all (fun q => tp_okL 147 q.1 q.2) = true := by decide +kernel
set_option maxRecDepth 100000 in
theorem tp_okp148 : (tp_prg 148).all (fun q => tp_okL 148 q.1 q.2) = true := by decide +kernel
set_option maxRecDepth 100000 in
theorem tp_okp149 : (tp_prg 149).all (fun q => tp_okL 149 q.1 q.2) = true := by decide +kernel
set_option maxRecDepth 100000 in
theorem tp_okp150 : (tp_prg 150).all (fun q => tp_okL 150 q.1 q.2) = true := by decide +kernel
set_option maxRecDepth 100000 in
theorem tp_okp151 : (tp_prg 151).all (fun q => tp_okL 151 q.1 q.2) = true := by decide +kernel
set_option maxRecDepth 100000 in
theorem tp_okp152 : (tp_prg 152).all (fun q => tp_okL 152 q.1 q.2) = true := by decide +kernel
set_option maxRecDepth 100000 in
theorem tp_okp153 : (tp_prg 153).all (fun q => tp_okL 153 q.1 q.2) = true := by decide +kernel
set_option maxRecDepth 100000 in
theorem tp_okp154 : (tp_prg 154).all (fun q => tp_okL 154 q.1 q.2) = true := by decide +kernel
set_option maxRecDepth 100000 in
theorem tp_okp155 : (tp_prg 155).all (fun q => tp_okL 155 q.1 q.2) = true := by decide +kernel
set_option maxRecDepth 100000 in
theorem tp_okq0 : ((tp_prg 156)[0]?).all (fun q => tp_okL 156 q.1 q.2) = true := by decide +kernel
set_option maxRecDepth 100000 in
theorem tp_okq1 : ((tp_prg 156)[1]?).all (fun q => tp_okL 156 q.1 q.2) = true := by decide +kernel
set_option maxRecDepth 100000 in
theorem tp_okq2 : ((tp_prg 156)[2]?).all (fun q => tp_okL 156 q.1 q.2) = true := by decide +kernel
set_option maxRecDepth 100000 in
theorem tp_okq3 : ((tp_prg 156)[3]?).all (fun q => tp_okL 156 q.1 q.2) = true := by decide +kernel
set_option maxRecDepth 100000 in
theorem tp_okq4 : ((tp_prg 156)[4]?).all (fun q => tp_okL 156 q.1 q.2) = true := by decide +kernel
set_option maxRecDepth 100000 in
theorem tp_okq5 : ((tp_prg 156)[5]?).all (fun q => tp_okL 156 q.1 q.2) = true := by decide +kernel
set_option maxRecDepth 100000 in
theorem tp_okq6 : ((tp_prg 156)[6]?).all (fun q => tp_okL 156 q.1 q.2) = true := by decide +kernel
set_option maxRecDepth 100000 in
theorem tp_okq7 : ((tp_prg 156)[7]?).all (fun q => tp_okL 156 q.1 q.2) = true := by decide +kernel
set_option maxRecDepth 100000 in
theorem tp_okq8 : ((tp_prg 156)[8]?).all (fun q => tp_okL 156 q.1 q.2) = true := by decide +kernel
set_option maxRecDepth 100000 in
theorem tp_okq9 : ((tp_prg 156)[9]?).all (fun q => tp_okL 156 q.1 q.2) = true := by decide +kernel
set_option maxRecDepth 100000 in
theorem tp_okq10 : ((tp_prg 156)[10]?).all (fun q => tp_okL 156 q.1 q.2) = true := by decide +kernel
set_option maxRecDepth 100000 in
theorem tp_okq11 : ((tp_prg 156)[11]?).all (fun q => tp_okL 156 q.1 q.2) = true := by decide +kernel
set_option maxRecDepth 100000 in
theorem tp_okq12 : ((tp_prg 156)[12]?).all (fun q => tp_okL 156 q.1 q.2) = true := by decide +kernel
set_option maxRecDepth 100000 in
theorem tp_okq13 : ((tp_prg 156)[13]?).all (fun q => tp_okL 156 q.1 q.2) = true := by decide +kernel
set_option maxRecDepth 100000 in
theorem tp_okq14 : ((tp_prg 156)[14]?).all (fun q => tp_okL 156 q.1 q.2) = true := by decide +kernel
set_option maxRecDepth 100000 in
theorem tp_okq15 : ((tp_prg 156)[15]?).all (fun q => tp_okL 156 q.1 q.2) = true := by decide +kernel
set_option maxRecDepth 100000 in
theorem tp_okq16 : ((tp_prg 156)[16]?).all (fun q => tp_okL 156 q.1 q.2) = true := by decide +kernel
set_option maxRecDepth 100000 in
theorem tp_okq17 : ((tp_prg 156)[17]?).all (fun q => tp_okL 156 q.1 q.2) = true := by decide +kernel
set_option maxRecDepth 100000 in
theorem tp_okq18 : ((tp_prg 156)[18]?).all (fun q => tp_okL 156 q.1 q.2) = true := by decide +kernel
set_option maxRecDepth 100000 in
theorem tp_okq19 : ((tp_prg 156)[19]?).all (fun q => tp_okL 156 q.1 q.2) = true := by decide +kernel
set_option maxRecDepth 100000 in
theorem tp_okq20 : ((tp_prg 156)[20]?).all (fun q => tp_okL 156 q.1 q.2) = true := by decide +kernel
set_option maxRecDepth 100000 in
theorem tp_okq21 : ((tp_prg 156)[21]?).all (fun q => tp_okL 156 q.1 q.2) = true := by decide +kernel
set_option maxRecDepth 100000 in
theorem tp_okq22 : ((tp_prg 156)[22]?).all (fun q => tp_okL 156 q.1 q.2) = true := by decide +kernel
set_option maxRecDepth 100000 in
theorem tp_okq23 : ((tp_prg 156)[23]?).all (fun q => tp_okL 156 q.1 q.2) = true := by decide +kernel
set_option maxRecDepth 100000 in
theorem tp_okq24 : ((tp_prg 156)[24]?).all (fun q => tp_okL 156 q.1 q.2) = true := by decide +kernel
set_option maxRecDepth 100000 in
theorem tp_okq25 : ((tp_prg 156)[25]?).all (fun q => tp_okL 156 q.1 q.2) = true := by decide +kernel
set_option maxRecDepth 100000 in
theorem tp_okq26 : ((tp_prg 156)[26]?).all (fun q => tp_okL 156 q.1 q.2) = true := by decide +kernel
set_option maxRecDepth 100000 in
theorem tp_okq27 : ((tp_prg 156)[27]?).all (fun q => tp_okL 156 q.1 q.2) = true := by decide +kernel
set_option maxRecDepth 100000 in
theorem tp_okq28 : ((tp_prg 156)[28]?).all (fun q => tp_okL 156 q.1 q.2) = true := by decide +kernel
set_option maxRecDepth 100000 in
theorem tp_okq29 : ((tp_prg 156)[29]?).all (fun q => tp_okL 156 q.1 q.2) = true := by decide +kernel
set_option maxRecDepth 100000 in
theorem tp_okq30 : ((tp_prg 156)[30]?).all (fun q => tp_okL 156 q.1 q.2) = true := by decide +kernel
set_option maxRecDepth 100000 in
theorem tp_okq31 : ((tp_prg 156)[31]?).all (fun q => tp_okL 156 q.1 q.2) = true := by decide +kernel
set_option maxRecDepth 100000 in
theorem tp_okq32 : ((tp_prg 156)[32]?).all (fun q => tp_okL 156 q.1 q.2) = true := by decide +kernel
set_option maxRecDepth 100000 in
theorem tp_okq33 : ((tp_prg 156)[33]?).all (fun q => tp_okL 156 q.1 q.2) = true := by decide +kernel
set_option maxRecDepth 100000 in
theorem tp_okq34 : ((tp_prg 156)[34]?).all (fun q => tp_okL 156 q.1 q.2) = true := by decide +kernel
set_option maxRecDepth 100000 in
theorem tp_okq35 : ((tp_prg 156)[35]?).all (fun q => tp_okL 156 q.1 q.2) = true := by decide +kernel
set_option maxRecDepth 100000 in
theorem tp_okq36 : ((tp_prg 156)[36]?).all (fun q => tp_okL 156 q.1 q.2) = true := by decide +kernel
set_option maxRecDepth 100000 in
theorem tp_okq37 : ((tp_prg 156)[37]?).all (fun q => tp_okL 156 q.1 q.2) = true := by decide +kernel
set_option maxRecDepth 100000 in
theorem tp_okq38 : ((tp_prg 156)[38]?).all (fun q => tp_okL 156 q.1 q.2) = true := by decide +kernel
set_option maxRecDepth 100000 in
theorem tp_okq39 : ((tp_prg 156)[39]?).all (fun q => tp_okL 156 q.1 q.2) = true := by decide +kernel
set_option maxRecDepth 100000 in
theorem tp_okq40 : ((tp_prg 156)[40]?).all (fun q => tp_okL 156 q.1 q.2) = true := by decide +kernel
theorem tp_cw0 : lw_tbl[(tp_mpl.getD 0 (0, 0, 0, 0)).1]? = some (.code (tp_y 0) (tp_cc 0) (tp_n 0) (tp_ret 0)) := by decide +kernel
theorem tp_cw1 : lw_tbl[(tp_mpl.getD 1 (0, 0, 0, 0)).1]? = some (.code (tp_y 1) (tp_cc 1) (tp_n 1) (tp_ret 1)) := by decide +kernel
theorem tp_cw2 : lw_tbl[(tp_mpl.getD 2 (0, 0, 0, 0)).1]? = some (.code (tp_y 2) (tp_cc 2) (tp_n 2) (tp_ret 2)) := by decide +kernel
theorem tp_cw3 : lw_tbl[(tp_mpl.getD 3 (0, 0, 0, 0)).1]? = some (.code (tp_y 3) (tp_cc 3) (tp_n 3) (tp_ret 3)) := by decide +kernel
theorem tp_cw4 : lw_tbl[(tp_mpl.getD 4 (0, 0, 0, 0)).1]? = some (.code (tp_y 4) (tp_cc 4) (tp_n 4) (tp_ret 4)) := by decide +kernel
theorem tp_cw5 : lw_tbl[(tp_mpl.getD 5 (0, 0, 0, 0)).1]? = some (.code (tp_y 5) (tp_cc 5) (tp_n 5) (tp_ret 5)) := by decide +kernel
theorem tp_cw6 : lw_tbl[(tp_mpl.getD 6 (0, 0, 0, 0)).1]? = some (.code (tp_y 6) (tp_cc 6) (tp_n 6) (tp_ret 6)) := by decide +kernel
theorem tp_cw7 : lw_tbl[(tp_mpl.getD 7 (0, 0, 0, 0)).1]? = some (.code (tp_y 7) (tp_cc 7) (tp_n 7) (tp_ret 7)) := by decide +kernel
theorem tp_cw8 : lw_tbl[(tp_mpl.getD 8 (0, 0, 0, 0)).1]? = some (.code (tp_y 8) (tp_cc 8) (tp_n 8) (tp_ret 8)) := by decide +kernel
theorem tp_cw9 : lw_tbl[(tp_mpl.getD 9 (0, 0, 0, 0)).1]? = some (.code (tp_y 9) (tp_cc 9) (tp_n 9) (tp_ret 9)) := by decide +kernel
theorem tp_cw10 : lw_tbl[(tp_mpl.getD 10 (0, 0, 0, 0)).1]? = some (.code (tp_y 10) (tp_cc 10) (tp_n 10) (tp_ret 10)) := by decide +kernel
theorem tp_cw11 : lw_tbl[(tp_mpl.getD 11 (0, 0, 0, 0)).1]? = some (.code (tp_y 11) (tp_cc 11) (tp_n 11) (tp_ret 11)) := by decide +kernel
theorem tp_cw12 : lw_tbl[(tp_mpl.getD 12 (0, 0, 0, 0)).1]? = some (.code (tp_y 12) (tp_cc 12) (tp_n 12) (tp_ret 12)) := by decide +kernel
theorem tp_cw13 : lw_tbl[(tp_mpl.getD 13 (0, 0, 0, 0)).1]? = some (.code (tp_y 13) (tp_cc 13) (tp_n 13) (tp_ret 13)) := by decide +kernel
theorem tp_cw14 : lw_tbl[(tp_mpl.getD 14 (0, 0, 0, 0)).1]? = some (.code (tp_y 14) (tp_cc 14) (tp_n 14) (tp_ret 14)) := by decide +kernel
theorem tp_cw15 : lw_tbl[(tp_mpl.getD 15 (0, 0, 0, 0)).1]? = some (.code (tp_y 15) (tp_cc 15) (tp_n 15) (tp_ret 15)) := by decide +kernel
theorem tp_cw16 : lw_tbl[(tp_mpl.getD 16 (0, 0, 0, 0)).1]? = some (.code (tp_y 16) (tp_cc 16) (tp_n 16) (tp_ret 16)) := by decide +kernel
theorem tp_cw17 : lw_tbl[(tp_mpl.getD 17 (0, 0, 0, 0)).1]? = some (.code (tp_y 17) (tp_cc 17) (tp_n 17) (tp_ret 17)) := by decide +kernel
theorem tp_cw18 : lw_tbl[(tp_mpl.getD 18 (0, 0, 0, 0)).1]? = some (.code (tp_y 18) (tp_cc 18) (tp_n 18) (tp_ret 18)) := by decide +kernel
theorem tp_cw19 : lw_tbl[(tp_mpl.getD 19 (0, 0, 0, 0)).1]? = some (.code (tp_y 19) (tp_cc 19) (tp_n 19) (tp_ret 19)) := by decide +kernel
theorem tp_cw20 : lw_tbl[(tp_mpl.getD 20 (0, 0, 0, 0)).1]? = some (.code (tp_y 20) (tp_cc 20) (tp_n 20) (tp_ret 20)) := by decide +kernel
theorem tp_cw21 : lw_tbl[(tp_mpl.getD 21 (0, 0, 0, 0)).1]? = some (.code (tp_y 21) (tp_cc 21) (tp_n 21) (tp_ret 21)) := by decide +kernel
theorem tp_cw22 : lw_tbl[(tp_mpl.getD 22 (0, 0, 0, 0)).1]? = some (.code (tp_y 22) (tp_cc 22) (tp_n 22) (tp_ret 22)) := by decide +kernel
theorem tp_cw23 : lw_tbl[(tp_mpl.getD 23 (0, 0, 0, 0)).1]? = some (.code (tp_y 23) (tp_cc 23) (tp_n 23) (tp_ret 23)) := by decide +kernel
theorem tp_cw24 : lw_tbl[(tp_mpl.getD 24 (0, 0, 0, 0)).1]? = some (.code (tp_y 24) (tp_cc 24) (tp_n 24) (tp_ret 24)) := by decide +kernel
theorem tp_cw25 : lw_tbl[(tp_mpl.getD 25 (0, 0, 0, 0)).1]? = some (.code (tp_y 25) (tp_cc 25) (tp_n 25) (tp_ret 25)) := by decide +kernel
theorem tp_cw26 : lw_tbl[(tp_mpl.getD 26 (0, 0, 0, 0)).1]? = some (.code (tp_y 26) (tp_cc 26) (tp_n 26) (tp_ret 26)) := by decide +kernel
theorem tp_cw27 : lw_tbl[(tp_mpl.getD 27 (0, 0, 0, 0)).1]? = some (.code (tp_y 27) (tp_cc 27) (tp_n 27) (tp_ret 27)) := by decide +kernel
theorem tp_cw28 : lw_tbl[(tp_mpl.getD 28 (0, 0, 0, 0)).1]? = some (.code (tp_y 28) (tp_cc 28) (tp_n 28) (tp_ret 28)) := by decide +kernel
theorem tp_cw29 : lw_tbl[(tp_mpl.getD 29 (0, 0, 0, 0)).1]? = some (.code (tp_y 29) (tp_cc 29) (tp_n 29) (tp_ret 29)) := by decide +kernel
theorem tp_cw30 : lw_tbl[(tp_mpl.getD 30 (0, 0, 0, 0)).1]? = some (.code (tp_y 30) (tp_cc 30) (tp_n 30) (tp_ret 30)) := by decide +kernel
theorem tp_cw31 : lw_tbl[(tp_mpl.getD 31 (0, 0, 0, 0)).1]? = some (.code (tp_y 31) (tp_cc 31) (tp_n 31) (tp_ret 31)) := by decide +kernel
theorem tp_cw32 : lw_tbl[(tp_mpl.getD 32 (0, 0, 0, 0)).1]? = some (.code (tp_y 32) (tp_cc 32) (tp_n 32) (tp_ret 32)) := by decide +kernel
theorem tp_cw33 : lw_tbl[(tp_mpl.getD 33 (0, 0, 0, 0)).1]? = some (.code (tp_y 33) (tp_cc 33) (tp_n 33) (tp_ret 33)) := by decide +kernel
theorem tp_cw34 : lw_tbl[(tp_mpl.getD 34 (0, 0, 0, 0)).1]? = some (.code (tp_y 34) (tp_cc 34) (tp_n 34) (tp_ret 34)) := by decide +kernel
theorem tp_cw35 : lw_tbl[(tp_mpl.getD 35 (0, 0, 0, 0)).1]? = some (.code (tp_y 35) (tp_cc 35) (tp_n 35) (tp_ret 35)) := by decide +kernel
theorem tp_cw36 : lw_tbl[(tp_mpl.getD 36 (0, 0, 0, 0)).1]? = some (.code (tp_y 36) (tp_cc 36) (tp_n 36) (tp_ret 36)) := by decide +kernel
theorem tp_cw37 : lw_tbl[(tp_mpl.getD 37 (0, 0, 0, 0)).1]? = some (.code (tp_y 37) (tp_cc 37) (tp_n 37) (tp_ret 37)) := by decide +kernel
theorem tp_cw38 : lw_tbl[(tp_mpl.getD 38 (0, 0, 0, 0)).1]? = some (.code (tp_y 38) (tp_cc 38) (tp_n 38) (tp_ret 38)) := by decide +kernel
theorem tp_cw39 : lw_tbl[(tp_mpl.getD 39 (0, 0, 0, 0)).1]? = some (.code (tp_y 39) (tp_cc 39) (tp_n 39) (tp_ret 39)) := by decide +kernel
theorem tp_cw40 : lw_tbl[(tp_mpl.getD 40 (0, 0, 0, 0)).1]? = some (.code (tp_y 40) (tp_cc 40) (tp_n 40) (tp_ret 40)) := by decide +kernel
theorem tp_cw41 : lw_tbl[(tp_mpl.getD 41 (0, 0, 0, 0)).1]? = some (.code (tp_y 41) (tp_cc 41) (tp_n 41) (tp_ret 41)) := by decide +kernel
theorem tp_cw42 : lw_tbl[(tp_mpl.getD 42 (0, 0, 0, 0)).1]? = some (.code (tp_y 42) (tp_cc 42) (tp_n 42) (tp_ret 42)) := by decide +kernel
theorem tp_cw43 : lw_tbl[(tp_mpl.getD 43 (0, 0, 0, 0)).1]? = some (.code (tp_y 43) (tp_cc 43) (tp_n 43) (tp_ret 43)) := by decide +kernel
theorem tp_cw44 : lw_tbl[(tp_mpl.getD 44 (0, 0, 0, 0)).1]? = some (.code (tp_y 44) (tp_cc 44) (tp_n 44) (tp_ret 44)) := by decide +kernel
theorem tp_cw45 : lw_tbl[(tp_mpl.getD 45 (0, 0, 0, 0)).1]? = some (.code (tp_y 45) (tp_cc 45) (tp_n 45) (tp_ret 45)) := by decide +kernel
theorem tp_cw46 : lw_tbl[(tp_mpl.getD 46 (0, 0, 0, 0)).1]? = some (.code (tp_y 46) (tp_cc 46) (tp_n 46) (tp_ret 46)) := by decide +kernel
theorem tp_cw47 : lw_tbl[(tp_mpl.getD 47 (0, 0, 0, 0)).1]? = some (.code (tp_y 47) (tp_cc 47) (tp_n 47) (tp_ret 47)) := by decide +kernel
theorem tp_cw48 : lw_tbl[(tp_mpl.getD 48 (0, 0, 0, 0)).1]? = some (.code (tp_y 48) (tp_cc 48) (tp_n 48) (tp_ret 48)) := by decide +kernel
theorem tp_cw49 : lw_tbl[(tp_mpl.getD 49 (0, 0, 0, 0)).1]? = some (.code (tp_y 49) (tp_cc 49) (tp_n 49) (tp_ret 49)) := by decide +kernel
theorem tp_cw50 : lw_tbl[(tp_mpl.getD 50 (0, 0, 0, 0)).1]? = some (.code (tp_y 50) (tp_cc 50) (tp_n 50) (tp_ret 50)) := by decide +kernel
theorem tp_cw51 : lw_tbl[(tp_mpl.getD 51 (0, 0, 0, 0)).1]? = some (.code (tp_y 51) (tp_cc 51) (tp_n 51) (tp_ret 51)) := by decide +kernel
theorem tp_cw52 : lw_tbl[(tp_mpl.getD 52 (0, 0, 0, 0)).1]? = some (.code (tp_y 52) (tp_cc 52) (tp_n 52) (tp_ret 52)) := by decide +kernel
theorem tp_cw53 : lw_tbl[(tp_mpl.getD 53 (0, 0, 0, 0)).1]? = some (.code (tp_y 53) (tp_cc 53) (tp_n 53) (tp_ret 53)) := by decide +kernel
theorem tp_cw54 : lw_tbl[(tp_mpl.getD 54 (0, 0, 0, 0)).1]? = some (.code (tp_y 54) (tp_cc 54) (tp_n 54) (tp_ret 54)) := by decide +kernel
theorem tp_cw55 : lw_tbl[(tp_mpl.getD 55 (0, 0, 0, 0)).1]? = some (.code (tp_y 55) (tp_cc 55) (tp_n 55) (tp_ret 55)) := by decide +kernel
theorem tp_cw56 : lw_tbl[(tp_mpl.getD 56 (0, 0, 0, 0)).1]? = some (.code (tp_y 56) (tp_cc 56) (tp_n 56) (tp_ret 56)) := by decide +kernel
theorem tp_cw57 : lw_tbl[(tp_mpl.getD 57 (0, 0, 0, 0)).1]? = some (.code (tp_y 57) (tp_cc 57) (tp_n 57) (tp_ret 57)) := by decide +kernel
theorem tp_cw58 : lw_tbl[(tp_mpl.getD 58 (0, 0, 0, 0)).1]? = some (.code (tp_y 58) (tp_cc 58) (tp_n 58) (tp_ret 58)) := by decide +kernel
theorem tp_cw59 : lw_tbl[(tp_mpl.getD 59 (0, 0, 0, 0)).1]? = some (.code (tp_y 59) (tp_cc 59) (tp_n 59) (tp_ret 59)) := by decide +kernel
theorem tp_cw60 : lw_tbl[(tp_mpl.getD 60 (0, 0, 0, 0)).1]? = some (.code (tp_y 60) (tp_cc 60) (tp_n 60) (tp_ret 60)) := by decide +kernel
theorem tp_cw61 : lw_tbl[(tp_mpl.getD 61 (0, 0, 0, 0)).1]? = some (.code (tp_y 61) (tp_cc 61) (tp_n 61) (tp_ret 61)) := by decide +kernel
theorem tp_cw62 : lw_tbl[(tp_mpl.getD 62 (0, 0, 0, 0)).1]? = some (.code (tp_y 62) (tp_cc 62) (tp_n 62) (tp_ret 62)) := by decide +kernel
theorem tp_cw63 : lw_tbl[(tp_mpl.getD 63 (0, 0, 0, 0)).1]? = some (.code (tp_y 63) (tp_cc 63) (tp_n 63) (tp_ret 63)) := by decide +kernel
theorem tp_cw64 : lw_tbl[(tp_mpl.getD 64 (0, 0, 0, 0)).1]? = some (.code (tp_y 64) (tp_cc 64) (tp_n 64) (tp_ret 64)) := by decide +kernel
theorem tp_cw65 : lw_tbl[(tp_mpl.getD 65 (0, 0, 0, 0)).1]? = some (.code (tp_y 65) (tp_cc 65) (tp_n 65) (tp_ret 65)) := by decide +kernel
theorem tp_cw66 : lw_tbl[(tp_mpl.getD 66 (0, 0, 0, 0)).1]? = some (.code (tp_y 66) (tp_cc 66) (tp_n 66) (tp_ret 66)) := by decide +kernel
theorem tp_cw67 : lw_tbl[(tp_mpl.getD 67 (0, 0, 0, 0)).1]? = some (.code (tp_y 67) (tp_cc 67) (tp_n 67) (tp_ret 67)) := by decide +kernel
theorem tp_cw68 : lw_tbl[(tp_mpl.getD 68 (0, 0, 0, 0)).1]? = some (.code (tp_y 68) (tp_cc 68) (tp_n 68) (tp_ret 68)) := by decide +kernel
theorem tp_cw69 : lw_tbl[(tp_mpl.getD 69 (0, 0, 0, 0)).1]? = some (.code (tp_y 69) (tp_cc 69) (tp_n 69) (tp_ret 69)) := by decide +kernel
theorem tp_cw70 : lw_tbl[(tp_mpl.getD 70 (0, 0, 0, 0)).1]? = some (.code (tp_y 70) (tp_cc 70) (tp_n 70) (tp_ret 70)) := by decide +kernel
theorem tp_cw71 : lw_tbl[(tp_mpl.getD 71 (0, 0, 0, 0)).1]? = some (.code (tp_y 71) (tp_cc 71) (tp_n 71) (tp_ret 71)) := by decide +kernel
theorem tp_cw72 : lw_tbl[(tp_mpl.getD 72 (0, 0, 0, 0)).1]? = some (.code (tp_y 72) (tp_cc 72) (tp_n 72) (tp_ret 72)) := by decide +kernel
theorem tp_cw73 : lw_tbl[(tp_mpl.getD 73 (0, 0, 0, 0)).1]? = some (.code (tp_y 73) (tp_cc 73) (tp_n 73) (tp_ret 73)) := by decide +kernel
theorem tp_cw74 : lw_tbl[(tp_mpl.getD 74 (0, 0, 0, 0)).1]? = some (.code (tp_y 74) (tp_cc 74) (tp_n 74) (tp_ret 74)) := by decide +kernel
theorem tp_cw75 : lw_tbl[(tp_mpl.getD 75 (0, 0, 0, 0)).1]? = some (.code (tp_y 75) (tp_cc 75) (tp_n 75) (tp_ret 75)) := by decide +kernel
theorem tp_cw76 : lw_tbl[(tp_mpl.getD 76 (0, 0, 0, 0)).1]? = some (.code (tp_y 76) (tp_cc 76) (tp_n 76) (tp_ret 76)) := by decide +kernel
theorem tp_cw77 : lw_tbl[(tp_mpl.getD 77 (0, 0, 0, 0)).1]? = some (.code (tp_y 77) (tp_cc 77) (tp_n 77) (tp_ret 77)) := by decide +kernel
theorem tp_cw78 : lw_tbl[(tp_mpl.getD 78 (0, 0, 0, 0)).1]? = some (.code (tp_y 78) (tp_cc 78) (tp_n 78) (tp_ret 78)) := by decide +kernel
theorem tp_cw79 : lw_tbl[(tp_mpl.getD 79 (0, 0, 0, 0)).1]? = some (.code (tp_y 79) (tp_cc 79) (tp_n 79) (tp_ret 79)) := by decide +kernel
theorem tp_cw80 : lw_tbl[(tp_mpl.getD 80 (0, 0, 0, 0)).1]? = some (.code (tp_y 80) (tp_cc 80) (tp_n 80) (tp_ret 80)) := by decide +kernel
theorem tp_cw81 : lw_tbl[(tp_mpl.getD 81 (0, 0, 0, 0)).1]? = some (.code (tp_y 81) (tp_cc 81) (tp_n 81) (tp_ret 81)) := by decide +kernel
theorem tp_cw82 : lw_tbl[(tp_mpl.getD 82 (0, 0, 0, 0)).1]? = some (.code (tp_y 82) (tp_cc 82) (tp_n 82) (tp_ret 82)) := by decide +kernel
theorem tp_cw83 : lw_tbl[(tp_mpl.getD 83 (0, 0, 0, 0)).1]? = some (.code (tp_y 83) (tp_cc 83) (tp_n 83) (tp_ret 83)) := by decide +kernel
theorem tp_cw84 : lw_tbl[(tp_mpl.getD 84 (0, 0, 0, 0)).1]? = some (.code (tp_y 84) (tp_cc 84) (tp_n 84) (tp_ret 84)) := by decide +kernel
theorem tp_cw85 : lw_tbl[(tp_mpl.getD 85 (0, 0, 0, 0)).1]? = some (.code (tp_y 85) (tp_cc 85) (tp_n 85) (tp_ret 85)) := by decide +kernel
theorem tp_cw86 : lw_tbl[(tp_mpl.getD 86 (0, 0, 0, 0)).1]? = some (.code (tp_y 86) (tp_cc 86) (tp_n 86) (tp_ret 86)) := by decide +kernel
theorem tp_cw87 : lw_tbl[(tp_mpl.getD 87 (0, 0, 0, 0)).1]? = some (.code (tp_y 87) (tp_cc 87) (tp_n 87) (tp_ret 87)) := by decide +kernel
theorem tp_cw88 : lw_tbl[(tp_mpl.getD 88 (0, 0, 0, 0)).1]? = some (.code (tp_y 88) (tp_cc 88) (tp_n 88) (tp_ret 88)) := by decide +kernel
theorem tp_cw89 : lw_tbl[(tp_mpl.getD 89 (0, 0, 0, 0)).1]? = some (.code (tp_y 89) (tp_cc 89) (tp_n 89) (tp_ret 89)) := by decide +kernel
theorem tp_cw90 : lw_tbl[(tp_mpl.getD 90 (0, 0, 0, 0)).1]? = some (.code (tp_y 90) (tp_cc 90) (tp_n 90) (tp_ret 90)) := by decide +kernel
theorem tp_cw91 : lw_tbl[(tp_mpl.getD 91 (0, 0, 0, 0)).1]? = some (.code (tp_y 91) (tp_cc 91) (tp_n 91) (tp_ret 91)) := by decide +kernel
theorem tp_cw92 : lw_tbl[(tp_mpl.getD 92 (0, 0, 0, 0)).1]? = some (.code (tp_y 92) (tp_cc 92) (tp_n 92) (tp_ret 92)) := by decide +kernel
theorem tp_cw93 : lw_tbl[(tp_mpl.getD 93 (0, 0, 0, 0)).1]? = some (.code (tp_y 93) (tp_cc 93) (tp_n 93) (tp_ret 93)) := by decide +kernel
theorem tp_cw94 : lw_tbl[(tp_mpl.getD 94 (0, 0, 0, 0)).1]? = some (.code (tp_y 94) (tp_cc 94) (tp_n 94) (tp_ret 94)) := by decide +kernel
theorem tp_cw95 : lw_tbl[(tp_mpl.getD 95 (0, 0, 0, 0)).1]? = some (.code (tp_y 95) (tp_cc 95) (tp_n 95) (tp_ret 95)) := by decide +kernel
theorem tp_cw96 : lw_tbl[(tp_mpl.getD 96 (0, 0, 0, 0)).1]? = some (.code (tp_y 96) (tp_cc 96) (tp_n 96) (tp_ret 96)) := by decide +kernel
theorem tp_cw97 : lw_tbl[(tp_mpl.getD 97 (0, 0, 0, 0)).1]? = some (.code (tp_y 97) (tp_cc 97) (tp_n 97) (tp_ret 97)) := by decide +kernel
theorem tp_cw98 : lw_tbl[(tp_mpl.getD 98 (0, 0, 0, 0)).1]? = some (.code (tp_y 98) (tp_cc 98) (tp_n 98) (tp_ret 98)) := by decide +kernel
theorem tp_cw99 : lw_tbl[(tp_mpl.getD 99 (0, 0, 0, 0)).1]? = some (.code (tp_y 99) (tp_cc 99) (tp_n 99) (tp_ret 99)) := by decide +kernel
theorem tp_cw100 : lw_tbl[(tp_mpl.getD 100 (0, 0, 0, 0)).1]? = some (.code (tp_y 100) (tp_cc 100) (tp_n 100) (tp_ret 100)) := by decide +kernel
theorem tp_cw101 : lw_tbl[(tp_mpl.getD 101 (0, 0, 0, 0)).1]? = some (.code (tp_y 101) (tp_cc 101) (tp_n 101) (tp_ret 101)) := by decide +kernel
theorem tp_cw102 : lw_tbl[(tp_mpl.getD 102 (0, 0, 0, 0)).1]? = some (.code (tp_y 102) (tp_cc 102) (tp_n 102) (tp_ret 102)) := by decide +kernel
theorem tp_cw103 : lw_tbl[(tp_mpl.getD 103 (0, 0, 0, 0)).1]? = some (.code (tp_y 103) (tp_cc 103) (tp_n 103) (tp_ret 103)) := by decide +kernel
theorem tp_cw104 : lw_tbl[(tp_mpl.getD 104 (0, 0, 0, 0)).1]? = some (.code (tp_y 104) (tp_cc 104) (tp_n 104) (tp_ret 104)) := by decide +kernel
theorem tp_cw105 : lw_tbl[(tp_mpl.getD 105 (0, 0, 0, 0)).1]? = some (.code (tp_y 105) (tp_cc 105) (tp_n 105) (tp_ret 105)) := by decide +kernel
theorem tp_cw106 : lw_tbl[(tp_mpl.getD 106 (0, 0, 0, 0)).1]? = some (.code (tp_y 106) (tp_cc 106) (tp_n 106) (tp_ret 106)) := by decide +kernel
theorem tp_cw107 : lw_tbl[(tp_mpl.getD 107 (0, 0, 0, 0)).1]? = some (.code (tp_y 107) (tp_cc 107) (tp_n 107) (tp_ret 107)) := by decide +kernel
theorem tp_cw108 : lw_tbl[(tp_mpl.getD 108 (0, 0, 0, 0)).1]? = some (.code (tp_y 108) (tp_cc 108) (tp_n 108) (tp_ret 108)) := by decide +kernel
theorem tp_cw109 : lw_tbl[(tp_mpl.getD 109 (0, 0, 0, 0)).1]? = some (.code (tp_y 109) (tp_cc 109) (tp_n 109) (tp_ret 109)) := by decide +kernel
theorem tp_cw110 : lw_tbl[(tp_mpl.getD 110 (0, 0, 0, 0)).1]? = some (.code (tp_y 110) (tp_cc 110) (tp_n 110) (tp_ret 110)) := by decide +kernel
theorem tp_cw111 : lw_tbl[(tp_mpl.getD 111 (0, 0, 0, 0)).1]? = some (.code (tp_y 111) (tp_cc 111) (tp_n 111) (tp_ret 111)) := by decide +kernel
theorem tp_cw112 : lw_tbl[(tp_mpl.getD 112 (0, 0, 0, 0)).1]? = some (.code (tp_y 112) (tp_cc 112) (tp_n 112) (tp_ret 112)) := by decide +kernel
theorem tp_cw113 : lw_tbl[(tp_mpl.getD 113 (0, 0, 0, 0)).1]? = some (.code (tp_y 113) (tp_cc 113) (tp_n 113) (tp_ret 113)) := by decide +kernel
theorem tp_cw114 : lw_tbl[(tp_mpl.getD 114 (0, 0, 0, 0)).1]? = some (.code (tp_y 114) (tp_cc 114) (tp_n 114) (tp_ret 114)) := by decide +kernel
theorem tp_cw115 : lw_tbl[(tp_mpl.getD 115 (0, 0, 0, 0)).1]? = some (.code (tp_y 115) (tp_cc 115) (tp_n 115) (tp_ret 115)) := by decide +kernel
theorem tp_cw116 : lw_tbl[(tp_mpl.getD 116 (0, 0, 0, 0)).1]? = some (.code (tp_y 116) (tp_cc 116) (tp_n 116) (tp_ret 116)) := by decide +kernel
theorem tp_cw117 : lw_tbl[(tp_mpl.getD 117 (0, 0, 0, 0)).1]? = some (.code (tp_y 117) (tp_cc 117) (tp_n 117) (tp_ret 117)) := by decide +kernel
theorem tp_cw118 : lw_tbl[(tp_mpl.getD 118 (0, 0, 0, 0)).1]? = some (.code (tp_y 118) (tp_cc 118) (tp_n 118) (tp_ret 118)) := by decide +kernel
theorem tp_cw119 : lw_tbl[(tp_mpl.getD 119 (0, 0, 0, 0)).1]? = some (.code (tp_y 119) (tp_cc 119) (tp_n 119) (tp_ret 119)) := by decide +kernel
theorem tp_cw120 : lw_tbl[(tp_mpl.getD 120 (0, 0, 0, 0)).1]? = some (.code (tp_y 120) (tp_cc 120) (tp_n 120) (tp_ret 120)) := by decide +kernel
theorem tp_cw121 : lw_tbl[(tp_mpl.getD 121 (0, 0, 0, 0)).1]? = some (.code (tp_y 121) (tp_cc 121) (tp_n 121) (tp_ret 121)) := by decide +kernel
theorem tp_cw122 : lw_tbl[(tp_mpl.getD 122 (0, 0, 0, 0)).1]? = some (.code (tp_y 122) (tp_cc 122) (tp_n 122) (tp_ret 122)) := by decide +kernel
theorem tp_cw123 : lw_tbl[(tp_mpl.getD 123 (0, 0, 0, 0)).1]? = some (.code (tp_y 123) (tp_cc 123) (tp_n 123) (tp_ret 123)) := by decide +kernel
theorem tp_cw124 : lw_tbl[(tp_mpl.getD 124 (0, 0, 0, 0)).1]? = some (.code (tp_y 124) (tp_cc 124) (tp_n 124) (tp_ret 124)) := by decide +kernel
theorem tp_cw125 : lw_tbl[(tp_mpl.getD 125 (0, 0, 0, 0)).1]? = some (.code (tp_y 125) (tp_cc 125) (tp_n 125) (tp_ret 125)) := by decide +kernel
theorem tp_cw126 : lw_tbl[(tp_mpl.getD 126 (0, 0, 0, 0)).1]? = some (.code (tp_y 126) (tp_cc 126) (tp_n 126) (tp_ret 126)) := by decide +kernel
theorem tp_cw127 : lw_tbl[(tp_mpl.getD 127 (0, 0, 0, 0)).1]? = some (.code (tp_y 127) (tp_cc 127) (tp_n 127) (tp_ret 127)) := by decide +kernel
theorem tp_cw128 : lw_tbl[(tp_mpl.getD 128 (0, 0, 0, 0)).1]? = some (.code (tp_y 128) (tp_cc 128) (tp_n 128) (tp_ret 128)) := by decide +kernel
theorem tp_cw129 : lw_tbl[(tp_mpl.getD 129 (0, 0, 0, 0)).1]? = some (.code (tp_y 129) (tp_cc 129) (tp_n 129) (tp_ret 129)) := by decide +kernel
theorem tp_cw130 : lw_tbl[(tp_mpl.getD 130 (0, 0, 0, 0)).1]? = some (.code (tp_y 130) (tp_cc 130) (tp_n 130) (tp_ret 130)) := by decide +kernel
theorem tp_cw131 : lw_tbl[(tp_mpl.getD 131 (0, 0, 0, 0)).1]? = some (.code (tp_y 131) (tp_cc 131) (tp_n 131) (tp_ret 131)) := by decide +kernel
theorem tp_cw132 : lw_tbl[(tp_mpl.getD 132 (0, 0, 0, 0)).1]? = some (.code (tp_y 132) (tp_cc 132) (tp_n 132) (tp_ret 132)) := by decide +kernel
theorem tp_cw133 : lw_tbl[(tp_mpl.getD 133 (0, 0, 0, 0)).1]? = some (.code (tp_y 133) (tp_cc 133) (tp_n 133) (tp_ret 133)) := by decide +kernel
theorem tp_cw134 : lw_tbl[(tp_mpl.getD 134 (0, 0, 0, 0)).1]? = some (.code (tp_y 134) (tp_cc 134) (tp_n 134) (tp_ret 134)) := by decide +kernel
theorem tp_cw135 : lw_tbl[(tp_mpl.getD 135 (0, 0, 0, 0)).1]? = some (.code (tp_y 135) (tp_cc 135) (tp_n 135) (tp_ret 135)) := by decide +kernel
theorem tp_cw136 : lw_tbl[(tp_mpl.getD 136 (0, 0, 0, 0)).1]? = some (.code (tp_y 136) (tp_cc 136) (tp_n 136) (tp_ret 136)) := by decide +kernel
theorem tp_cw137 : lw_tbl[(tp_mpl.getD 137 (0, 0, 0, 0)).1]? = some (.code (tp_y 137) (tp_cc 137) (tp_n 137) (tp_ret 137)) := by decide +kernel
theorem tp_cw138 : lw_tbl[(tp_mpl.getD 138 (0, 0, 0, 0)).1]? = some (.code (tp_y 138) (tp_cc 138) (tp_n 138) (tp_ret 138)) := by decide +kernel
theorem tp_cw139 : lw_tbl[(tp_mpl.getD 139 (0, 0, 0, 0)).1]? = some (.code (tp_y 139) (tp_cc 139) (tp_n 139) (tp_ret 139)) := by decide +kernel
theorem tp_cw140 : lw_tbl[(tp_mpl.getD 140 (0, 0, 0, 0)).1]? = some (.code (tp_y 140) (tp_cc 140) (tp_n 140) (tp_ret 140)) := by decide +kernel
theorem tp_cw141 : lw_tbl[(tp_mpl.getD 141 (0, 0, 0, 0)).1]? = some (.code (tp_y 141) (tp_cc 141) (tp_n 141) (tp_ret 141)) := by decide +kernel
theorem tp_cw142 : lw_tbl[(tp_mpl.getD 142 (0, 0, 0, 0)).1]? = some (.code (tp_y 142) (tp_cc 142) (tp_n 142) (tp_ret 142)) := by decide +kernel
theorem tp_cw143 : lw_tbl[(tp_mpl.getD 143 (0, 0, 0, 0)).1]? = some (.code (tp_y 143) (tp_cc 143) (tp_n 143) (tp_ret 143)) := by decide +kernel
theorem tp_cw144 : lw_tbl[(tp_mpl.getD 144 (0, 0, 0, 0)).1]? = some (.code (tp_y 144) (tp_cc 144) (tp_n 144) (tp_ret 144)) := by decide +kernel
theorem tp_cw145 : lw_tbl[(tp_mpl.getD 145 (0, 0, 0, 0)).1]? = some (.code (tp_y 145) (tp_cc 145) (tp_n 145) (tp_ret 145)) := by decide +kernel
theorem tp_cw146 : lw_tbl[(tp_mpl.getD 146 (0, 0, 0, 0)).1]? = some (.code (tp_y 146) (tp_cc 146) (tp_n 146) (tp_ret 146)) := by decide +kernel
theorem tp_cw147 : lw_tbl[(tp_mpl.getD 147 (0, 0, 0, 0)).1]? = some (.code (tp_y 147) (tp_cc 147) (tp_n 147) (tp_ret 147)) := by decide +kernel
theorem tp_cw148 : lw_tbl[(tp_mpl.getD 148 (0, 0, 0, 0)).1]? = some (.code (tp_y 148) (tp_cc 148) (tp_n 148) (tp_ret 148)) := by decide +kernel
theorem tp_cw149 : lw_tbl[(tp_mpl.getD 149 (0, 0, 0, 0)).1]? = some (.code (tp_y 149) (tp_cc 149) (tp_n 149) (tp_ret 149)) := by decide +kernel
theorem tp_cw150 : lw_tbl[(tp_mpl.getD 150 (0, 0, 0, 0)).1]? = some (.code (tp_y 150) (tp_cc 150) (tp_n 150) (tp_ret 150)) := by decide +kernel
theorem tp_cw151 : lw_tbl[(tp_mpl.getD 151 (0, 0, 0, 0)).1]? = some (.code (tp_y 151) (tp_cc 151) (tp_n 151) (tp_ret 151)) := by decide +kernel
theorem tp_cw152 : lw_tbl[(tp_mpl.getD 152 (0, 0, 0, 0)).1]? = some (.code (tp_y 152) (tp_cc 152) (tp_n 152) (tp_ret 152)) := by decide +kernel
theorem tp_cw153 : lw_tbl[(tp_mpl.getD 153 (0, 0, 0, 0)).1]? = some (.code (tp_y 153) (tp_cc 153) (tp_n 153) (tp_ret 153)) := by decide +kernel
theorem tp_cw154 : lw_tbl[(tp_mpl.getD 154 (0, 0, 0, 0)).1]? = some (.code (tp_y 154) (tp_cc 154) (tp_n 154) (tp_ret 154)) := by decide +kernel
theorem tp_cw155 : lw_tbl[(tp_mpl.getD 155 (0, 0, 0, 0)).1]? = some (.code (tp_y 155) (tp_cc 155) (tp_n 155) (tp_ret 155)) := by decide +kernel
theorem tp_okMs : (List.range 156).all tp_okM = true := by decide +kernel
