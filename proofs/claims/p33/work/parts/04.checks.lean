set_option maxRecDepth 100000 in
theorem tp_okp0 : (tp_prg 0).all (fun q => tp_okL 0 q.1 q.2) = true := by decide +kernel
set_option maxRecDepth 100000 in
theorem tp_okp1 : (tp_prg 1).all (fun q => tp_okL 1 q.1 q.2) = true := by decide +kernel
set_option maxRecDepth 100000 in
theorem tp_okp2 : (tp_prg 2).all (fun q => tp_okL 2 q.1 q.2) = true := by decide +kernel
set_option maxRecDepth 100000 in
theorem tp_okp3 : (tp_prg 3).all (fun q => tp_okL 3 q.1 q.2) = true := by decide +kernel
set_option maxRecDepth 100000 in
theorem tp_okp4 : (tp_prg 4).all (fun q => tp_okL 4 q.1 q.2) = true := by decide +kernel
set_option maxRecDepth 100000 in
theorem tp_okp5 : (tp_prg 5).all (fun q => tp_okL 5 q.1 q.2) = true := by decide +kernel
set_option maxRecDepth 100000 in
theorem tp_okp6 : (tp_prg 6).all (fun q => tp_okL 6 q.1 q.2) = true := by decide +kernel
set_option maxRecDepth 100000 in
theorem tp_okp7 : (tp_prg 7).all (fun q => tp_okL 7 q.1 q.2) = true := by decide +kernel
set_option maxRecDepth 100000 in
theorem tp_okp8 : (tp_prg 8).all (fun q => tp_okL 8 q.1 q.2) = true := by decide +kernel
set_option maxRecDepth 100000 in
theorem tp_okp9 : (tp_prg 9).all (fun q => tp_okL 9 q.1 q.2) = true := by decide +kernel
set_option maxRecDepth 100000 in
theorem tp_okp10 : (tp_prg 10).all (fun q => tp_okL 10 q.1 q.2) = true := by decide +kernel
set_option maxRecDepth 100000 in
theorem tp_okp11 : (tp_prg 11).all (fun q => tp_okL 11 q.1 q.2) = true := by decide +kernel
set_option maxRecDepth 100000 in
theorem tp_okp12 : (tp_prg 12).all (fun q => tp_okL 12 q.1 q.2) = true := by decide +kernel
set_option maxRecDepth 100000 in
theorem tp_okp13 : (tp_prg 13).all (fun q => tp_okL 13 q.1 q.2) = true := by decide +kernel
set_option maxRecDepth 100000 in
theorem tp_okp14 : (tp_prg 14).all (fun q => tp_okL 14 q.1 q.2) = true := by decide +kernel
set_option maxRecDepth 100000 in
theorem tp_okp15 : (tp_prg 15).all (fun q => tp_okL 15 q.1 q.2) = true := by decide +kernel
set_option maxRecDepth 100000 in
theorem tp_okp16 : (tp_prg 16).all (fun q => tp_okL 16 q.1 q.2) = true := by decide +kernel
set_option maxRecDepth 100000 in
theorem tp_okp17 : (tp_prg 17).all (fun q => tp_okL 17 q.1 q.2) = true := by decide +kernel
set_option maxRecDepth 100000 in
theorem tp_okp18 : (tp_prg 18).all (fun q => tp_okL 18 q.1 q.2) = true := by decide +kernel
set_option maxRecDepth 100000 in
theorem tp_okp19 : (tp_prg 19).all (fun q => tp_okL 19 q.1 q.2) = true := by decide +kernel
set_option maxRecDepth 100000 in
theorem tp_okp20 : (tp_prg 20).all (fun q => tp_okL 20 q.1 q.2) = true := by decide +kernel
set_option maxRecDepth 100000 in
theorem tp_okp21 : (tp_prg 21).all (fun q => tp_okL 21 q.1 q.2) = true := by decide +kernel
set_option maxRecDepth 100000 in
theorem tp_okp22 : (tp_prg 22).all (fun q => tp_okL 22 q.1 q.2) = true := by decide +kernel
set_option maxRecDepth 100000 in
theorem tp_okp23 : (tp_prg 23).all (fun q => tp_okL 23 q.1 q.2) = true := by decide +kernel
set_option maxRecDepth 100000 in
theorem tp_okp24 : (tp_prg 24).all (fun q => tp_okL 24 q.1 q.2) = true := by decide +kernel
set_option maxRecDepth 100000 in
theorem tp_okp25 : (tp_prg 25).all (fun q => tp_okL 25 q.1 q.2) = true := by decide +kernel
set_option maxRecDepth 100000 in
theorem tp_okp26 : (tp_prg 26).all (fun q => tp_okL 26 q.1 q.2) = true := by decide +kernel
set_option maxRecDepth 100000 in
theorem tp_okp27 : (tp_prg 27).all (fun q => tp_okL 27 q.1 q.2) = true := by decide +kernel
set_option maxRecDepth 100000 in
theorem tp_okp28 : (tp_prg 28).all (fun q => tp_okL 28 q.1 q.2) = true := by decide +kernel
set_option maxRecDepth 100000 in
theorem tp_okp29 : (tp_prg 29).all (fun q => tp_okL 29 q.1 q.2) = true := by decide +kernel
set_option maxRecDepth 100000 in
theorem tp_okp30 : (tp_prg 30).all (fun q => tp_okL 30 q.1 q.2) = true := by decide +kernel
set_option maxRecDepth 100000 in
theorem tp_okp31 : (tp_prg 31).all (fun q => tp_okL 31 q.1 q.2) = true := by decide +kernel
set_option maxRecDepth 100000 in
theorem tp_okp32 : (tp_prg 32).all (fun q => tp_okL 32 q.1 q.2) = true := by decide +kernel
set_option maxRecDepth 100000 in
theorem tp_okp33 : (tp_prg 33).all (fun q => tp_okL 33 q.1 q.2) = true := by decide +kernel
set_option maxRecDepth 100000 in
theorem tp_okp34 : (tp_prg 34).all (fun q => tp_okL 34 q.1 q.2) = true := by decide +kernel
set_option maxRecDepth 100000 in
theorem tp_okp35 : (tp_prg 35).all (fun q => tp_okL 35 q.1 q.2) = true := by decide +kernel
set_option maxRecDepth 100000 in
theorem tp_okp36 : (tp_prg 36).all (fun q => tp_okL 36 q.1 q.2) = true := by decide +kernel
set_option maxRecDepth 100000 in
theorem tp_okp37 : (tp_prg 37).all (fun q => tp_okL 37 q.1 q.2) = true := by decide +kernel
set_option maxRecDepth 100000 in
theorem tp_okp38 : (tp_prg 38).all (fun q => tp_okL 38 q.1 q.2) = true := by decide +kernel
set_option maxRecDepth 100000 in
theorem tp_okp39 : (tp_prg 39).all (fun q => tp_okL 39 q.1 q.2) = true := by decide +kernel
set_option maxRecDepth 100000 in
theorem tp_okp40 : (tp_prg 40).all (fun q => tp_okL 40 q.1 q.2) = true := by decide +kernel
set_option maxRecDepth 100000 in
theorem tp_okp41 : (tp_prg 41).all (fun q => tp_okL 41 q.1 q.2) = true := by decide +kernel
set_option maxRecDepth 100000 in
theorem tp_okp42 : (tp_prg 42).all (fun q => tp_okL 42 q.1 q.2) = true := by decide +kernel
set_option maxRecDepth 100000 in
theorem tp_okq0 : ((tp_prg 43)[0]?).all (fun q => tp_okL 43 q.1 q.2) = true := by decide +kernel
set_option maxRecDepth 100000 in
theorem tp_okq1 : ((tp_prg 43)[1]?).all (fun q => tp_okL 43 q.1 q.2) = true := by decide +kernel
set_option maxRecDepth 100000 in
theorem tp_okq2 : ((tp_prg 43)[2]?).all (fun q => tp_okL 43 q.1 q.2) = true := by decide +kernel
set_option maxRecDepth 100000 in
theorem tp_okq3 : ((tp_prg 43)[3]?).all (fun q => tp_okL 43 q.1 q.2) = true := by decide +kernel
set_option maxRecDepth 100000 in
theorem tp_okq4 : ((tp_prg 43)[4]?).all (fun q => tp_okL 43 q.1 q.2) = true := by decide +kernel
set_option maxRecDepth 100000 in
theorem tp_okq5 : ((tp_prg 43)[5]?).all (fun q => tp_okL 43 q.1 q.2) = true := by decide +kernel
set_option maxRecDepth 100000 in
theorem tp_okq6 : ((tp_prg 43)[6]?).all (fun q => tp_okL 43 q.1 q.2) = true := by decide +kernel
set_option maxRecDepth 100000 in
theorem tp_okq7 : ((tp_prg 43)[7]?).all (fun q => tp_okL 43 q.1 q.2) = true := by decide +kernel
set_option maxRecDepth 100000 in
theorem tp_okq8 : ((tp_prg 43)[8]?).all (fun q => tp_okL 43 q.1 q.2) = true := by decide +kernel
set_option maxRecDepth 100000 in
theorem tp_okq9 : ((tp_prg 43)[9]?).all (fun q => tp_okL 43 q.1 q.2) = true := by decide +kernel
set_option maxRecDepth 100000 in
theorem tp_okq10 : ((tp_prg 43)[10]?).all (fun q => tp_okL 43 q.1 q.2) = true := by decide +kernel
set_option maxRecDepth 100000 in
theorem tp_okq11 : ((tp_prg 43)[11]?).all (fun q => tp_okL 43 q.1 q.2) = true := by decide +kernel
set_option maxRecDepth 100000 in
theorem tp_okq12 : ((tp_prg 43)[12]?).all (fun q => tp_okL 43 q.1 q.2) = true := by decide +kernel
set_option maxRecDepth 100000 in
theorem tp_okq13 : ((tp_prg 43)[13]?).all (fun q => tp_okL 43 q.1 q.2) = true := by decide +kernel
set_option maxRecDepth 100000 in
theorem tp_okq14 : ((tp_prg 43)[14]?).all (fun q => tp_okL 43 q.1 q.2) = true := by decide +kernel
set_option maxRecDepth 100000 in
theorem tp_okq15 : ((tp_prg 43)[15]?).all (fun q => tp_okL 43 q.1 q.2) = true := by decide +kernel
set_option maxRecDepth 100000 in
theorem tp_okq16 : ((tp_prg 43)[16]?).all (fun q => tp_okL 43 q.1 q.2) = true := by decide +kernel
set_option maxRecDepth 100000 in
theorem tp_okq17 : ((tp_prg 43)[17]?).all (fun q => tp_okL 43 q.1 q.2) = true := by decide +kernel
set_option maxRecDepth 100000 in
theorem tp_okq18 : ((tp_prg 43)[18]?).all (fun q => tp_okL 43 q.1 q.2) = true := by decide +kernel
set_option maxRecDepth 100000 in
theorem tp_okq19 : ((tp_prg 43)[19]?).all (fun q => tp_okL 43 q.1 q.2) = true := by decide +kernel
set_option maxRecDepth 100000 in
theorem tp_okq20 : ((tp_prg 43)[20]?).all (fun q => tp_okL 43 q.1 q.2) = true := by decide +kernel
set_option maxRecDepth 100000 in
theorem tp_okq21 : ((tp_prg 43)[21]?).all (fun q => tp_okL 43 q.1 q.2) = true := by decide +kernel
set_option maxRecDepth 100000 in
theorem tp_okq22 : ((tp_prg 43)[22]?).all (fun q => tp_okL 43 q.1 q.2) = true := by decide +kernel
set_option maxRecDepth 100000 in
theorem tp_okq23 : ((tp_prg 43)[23]?).all (fun q => tp_okL 43 q.1 q.2) = true := by decide +kernel
set_option maxRecDepth 100000 in
theorem tp_okq24 : ((tp_prg 43)[24]?).all (fun q => tp_okL 43 q.1 q.2) = true := by decide +kernel
set_option maxRecDepth 100000 in
theorem tp_okq25 : ((tp_prg 43)[25]?).all (fun q => tp_okL 43 q.1 q.2) = true := by decide +kernel
set_option maxRecDepth 100000 in
theorem tp_okq26 : ((tp_prg 43)[26]?).all (fun q => tp_okL 43 q.1 q.2) = true := by decide +kernel
set_option maxRecDepth 100000 in
theorem tp_okq27 : ((tp_prg 43)[27]?).all (fun q => tp_okL 43 q.1 q.2) = true := by decide +kernel
set_option maxRecDepth 100000 in
theorem tp_okq28 : ((tp_prg 43)[28]?).all (fun q => tp_okL 43 q.1 q.2) = true := by decide +kernel
set_option maxRecDepth 100000 in
theorem tp_okq29 : ((tp_prg 43)[29]?).all (fun q => tp_okL 43 q.1 q.2) = true := by decide +kernel
set_option maxRecDepth 100000 in
theorem tp_okq30 : ((tp_prg 43)[30]?).all (fun q => tp_okL 43 q.1 q.2) = true := by decide +kernel
set_option maxRecDepth 100000 in
theorem tp_okq31 : ((tp_prg 43)[31]?).all (fun q => tp_okL 43 q.1 q.2) = true := by decide +kernel
set_option maxRecDepth 100000 in
theorem tp_okq32 : ((tp_prg 43)[32]?).all (fun q => tp_okL 43 q.1 q.2) = true := by decide +kernel
set_option maxRecDepth 100000 in
theorem tp_okq33 : ((tp_prg 43)[33]?).all (fun q => tp_okL 43 q.1 q.2) = true := by decide +kernel
set_option maxRecDepth 100000 in
theorem tp_okq34 : ((tp_prg 43)[34]?).all (fun q => tp_okL 43 q.1 q.2) = true := by decide +kernel
set_option maxRecDepth 100000 in
theorem tp_okq35 : ((tp_prg 43)[35]?).all (fun q => tp_okL 43 q.1 q.2) = true := by decide +kernel
set_option maxRecDepth 100000 in
theorem tp_okq36 : ((tp_prg 43)[36]?).all (fun q => tp_okL 43 q.1 q.2) = true := by decide +kernel
set_option maxRecDepth 100000 in
theorem tp_okq37 : ((tp_prg 43)[37]?).all (fun q => tp_okL 43 q.1 q.2) = true := by decide +kernel
set_option maxRecDepth 100000 in
theorem tp_okq38 : ((tp_prg 43)[38]?).all (fun q => tp_okL 43 q.1 q.2) = true := by decide +kernel
set_option maxRecDepth 100000 in
theorem tp_okq39 : ((tp_prg 43)[39]?).all (fun q => tp_okL 43 q.1 q.2) = true := by decide +kernel
set_option maxRecDepth 100000 in
theorem tp_okq40 : ((tp_prg 43)[40]?).all (fun q => tp_okL 43 q.1 q.2) = true := by decide +kernel
set_option maxRecDepth 100000 in
theorem tp_okq41 : ((tp_prg 43)[41]?).all (fun q => tp_okL 43 q.1 q.2) = true := by decide +kernel
set_option maxRecDepth 100000 in
theorem tp_okq42 : ((tp_prg 43)[42]?).all (fun q => tp_okL 43 q.1 q.2) = true := by decide +kernel
set_option maxRecDepth 100000 in
theorem tp_okq43 : ((tp_prg 43)[43]?).all (fun q => tp_okL 43 q.1 q.2) = true := by decide +kernel
set_option maxRecDepth 100000 in
theorem tp_okq44 : ((tp_prg 43)[44]?).all (fun q => tp_okL 43 q.1 q.2) = true := by decide +kernel
set_option maxRecDepth 100000 in
theorem tp_okq45 : ((tp_prg 43)[45]?).all (fun q => tp_okL 43 q.1 q.2) = true := by decide +kernel
set_option maxRecDepth 100000 in
theorem tp_okq46 : ((tp_prg 43)[46]?).all (fun q => tp_okL 43 q.1 q.2) = true := by decide +kernel
set_option maxRecDepth 100000 in
theorem tp_okq47 : ((tp_prg 43)[47]?).all (fun q => tp_okL 43 q.1 q.2) = true := by decide +kernel
set_option maxRecDepth 100000 in
theorem tp_okq48 : ((tp_prg 43)[48]?).all (fun q => tp_okL 43 q.1 q.2) = true := by decide +kernel
set_option maxRecDepth 100000 in
theorem tp_okq49 : ((tp_prg 43)[49]?).all (fun q => tp_okL 43 q.1 q.2) = true := by decide +kernel
set_option maxRecDepth 100000 in
theorem tp_okq50 : ((tp_prg 43)[50]?).all (fun q => tp_okL 43 q.1 q.2) = true := by decide +kernel
set_option maxRecDepth 100000 in
theorem tp_okq51 : ((tp_prg 43)[51]?).all (fun q => tp_okL 43 q.1 q.2) = true := by decide +kernel
set_option maxRecDepth 100000 in
theorem tp_okq52 : ((tp_prg 43)[52]?).all (fun q => tp_okL 43 q.1 q.2) = true := by decide +kernel
set_option maxRecDepth 100000 in
theorem tp_okq53 : ((tp_prg 43)[53]?).all (fun q => tp_okL 43 q.1 q.2) = true := by decide +kernel
set_option maxRecDepth 100000 in
theorem tp_okq54 : ((tp_prg 43)[54]?).all (fun q => tp_okL 43 q.1 q.2) = true := by decide +kernel
set_option maxRecDepth 100000 in
theorem tp_okq55 : ((tp_prg 43)[55]?).all (fun q => tp_okL 43 q.1 q.2) = true := by decide +kernel
set_option maxRecDepth 100000 in
theorem tp_okq56 : ((tp_prg 43)[56]?).all (fun q => tp_okL 43 q.1 q.2) = true := by decide +kernel
set_option maxRecDepth 100000 in
theorem tp_okq57 : ((tp_prg 43)[57]?).all (fun q => tp_okL 43 q.1 q.2) = true := by decide +kernel
set_option maxRecDepth 100000 in
theorem tp_okq58 : ((tp_prg 43)[58]?).all (fun q => tp_okL 43 q.1 q.2) = true := by decide +kernel
set_option maxRecDepth 100000 in
theorem tp_okq59 : ((tp_prg 43)[59]?).all (fun q => tp_okL 43 q.1 q.2) = true := by decide +kernel
set_option maxRecDepth 100000 in
theorem tp_okq60 : ((tp_prg 43)[60]?).all (fun q => tp_okL 43 q.1 q.2) = true := by decide +kernel
set_option maxRecDepth 100000 in
theorem tp_okq61 : ((tp_prg 43)[61]?).all (fun q => tp_okL 43 q.1 q.2) = true := by decide +kernel
set_option maxRecDepth 100000 in
theorem tp_okq62 : ((tp_prg 43)[62]?).all (fun q => tp_okL 43 q.1 q.2) = true := by decide +kernel
set_option maxRecDepth 100000 in
theorem tp_okq63 : ((tp_prg 43)[63]?).all (fun q => tp_okL 43 q.1 q.2) = true := by decide +kernel
set_option maxRecDepth 100000 in
theorem tp_okq64 : ((tp_prg 43)[64]?).all (fun q => tp_okL 43 q.1 q.2) = true := by decide +kernel
set_option maxRecDepth 100000 in
theorem tp_okq65 : ((tp_prg 43)[65]?).all (fun q => tp_okL 43 q.1 q.2) = true := by decide +kernel
set_option maxRecDepth 100000 in
theorem tp_okq66 : ((tp_prg 43)[66]?).all (fun q => tp_okL 43 q.1 q.2) = true := by decide +kernel
set_option maxRecDepth 100000 in
theorem tp_okq67 : ((tp_prg 43)[67]?).all (fun q => tp_okL 43 q.1 q.2) = true := by decide +kernel
set_option maxRecDepth 100000 in
theorem tp_okq68 : ((tp_prg 43)[68]?).all (fun q => tp_okL 43 q.1 q.2) = true := by decide +kernel
set_option maxRecDepth 100000 in
theorem tp_okq69 : ((tp_prg 43)[69]?).all (fun q => tp_okL 43 q.1 q.2) = true := by decide +kernel
set_option maxRecDepth 100000 in
theorem tp_okq70 : ((tp_prg 43)[70]?).all (fun q => tp_okL 43 q.1 q.2) = true := by decide +kernel
set_option maxRecDepth 100000 in
theorem tp_okq71 : ((tp_prg 43)[71]?).all (fun q => tp_okL 43 q.1 q.2) = true := by decide +kernel
set_option maxRecDepth 100000 in
theorem tp_okq72 : ((tp_prg 43)[72]?).all (fun q => tp_okL 43 q.1 q.2) = true := by decide +kernel
set_option maxRecDepth 100000 in
theorem tp_okq73 : ((tp_prg 43)[73]?).all (fun q => tp_okL 43 q.1 q.2) = true := by decide +kernel
set_option maxRecDepth 100000 in
theorem tp_okq74 : ((tp_prg 43)[74]?).all (fun q => tp_okL 43 q.1 q.2) = true := by decide +kernel
set_option maxRecDepth 100000 in
theorem tp_okq75 : ((tp_prg 43)[75]?).all (fun q => tp_okL 43 q.1 q.2) = true := by decide +kernel
theorem tp_cw0 : lw_tbl[(tp_mpl.getD 0 (0, 0, 0, 0)).1]? = some (.code (tp_y 0) (tp_cc 0) (tp_n 0) (tp_ret 0)) := by decide +kernel
theorem tp_cw1 : lw_tbl[(tp_mpl.getD 1 (0, 0, 0, 0)).1]? = some (.code (tp_y 1) (tp_cc 1) (tp_n 1) (tp_ret 1)) := by decide +kernel
theorem tp_cw2 : lw_tbl[(tp_mpl.getD 2 (0, 0, 0, 0)).1]? = some (.code (tp_y 2) (tp_cc 2) (tp_n 2) (tp_ret 2)) := by decide +kernel
theorem tp_cw3 : lw_tbl[(tp_mpl.getD 3 (0, 0, 0, 0)).1]? = some (.code (tp_y 3) (tp_cc 3) (tp_n 3) (tp_ret 3)) := by decide +kernel
theorem tp_cw4 : lw_tbl[(tp_mpl.getD 4 (0, 0, 0, 0)).1]? = some (.code (tp_y 4) (tp_cc 4) (tp_n 4) (tp_ret 4)) := by decide +kernel
theorem tp_cw5 : lw_tbl[(tp_mpl.getD 5 (0, 0, 0, 0)).1]? = some (.code (tp_y 5) (tp_cc 5) (tp_n 5) (tp_ret 5)) := by decide +kernel
theorem tp_cw6 : lw_tbl[(tp_mpl.getD 6 (0, 0, 0, 0)).1]? = some (.code (tp_y 6) (tp_cc 6) (tp_n 6) (tp_ret 6)) := by decide +kernel
theorem tp_cw7 : lw_tbl[(tp_mpl.getD 7 (0, 0, 0, 0)).1]? = some (.code (tp_y 7) (tp_cc 7) (tp_n 7) (tp_ret 7)) := by decide +kernel
theorem tp_cw8 : lw_tbl[(tp_mpl.getD 8 (0, 0, 0, 0)).1]? = some (.code (tp_y 8) (tp_cc 8) (tp_n 8) (tp_ret 8)) := by decide +kernel
theorem tp_cw9 : lw_tbl[(tp_mpl.getD 9 (0, 0, 0, 0)).1]? = some (.code (tp_y 9) (tp_cc 9) (tp_n 9) (tp_ret 9)) := by decide +kernel
theorem tp_cw10 : lw_tbl[(tp_mpl.getD 10 (0, 0, 0, 0)).1]? = some (.code (tp_y 10) (tp_cc 10) (tp_n 10) (tp_ret 10)) := by decide +kernel
theorem tp_cw11 : lw_tbl[(tp_mpl.getD 11 (0, 0, 0, 0)).1]? = some (.code (tp_y 11) (tp_cc 11) (tp_n 11) (tp_ret 11)) := by decide +kernel
theorem tp_cw12 : lw_tbl[(tp_mpl.getD 12 (0, 0, 0, 0)).1]? = some (.code (tp_y 12) (tp_cc 12) (tp_n 12) (tp_ret 12)) := by decide +kernel
theorem tp_cw13 : lw_tbl[(tp_mpl.getD 13 (0, 0, 0, 0)).1]? = some (.code (tp_y 13) (tp_cc 13) (tp_n 13) (tp_ret 13)) := by decide +kernel
theorem tp_cw14 : lw_tbl[(tp_mpl.getD 14 (0, 0, 0, 0)).1]? = some (.code (tp_y 14) (tp_cc 14) (tp_n 14) (tp_ret 14)) := by decide +kernel
theorem tp_cw15 : lw_tbl[(tp_mpl.getD 15 (0, 0, 0, 0)).1]? = some (.code (tp_y 15) (tp_cc 15) (tp_n 15) (tp_ret 15)) := by decide +kernel
theorem tp_cw16 : lw_tbl[(tp_mpl.getD 16 (0, 0, 0, 0)).1]? = some (.code (tp_y 16) (tp_cc 16) (tp_n 16) (tp_ret 16)) := by decide +kernel
theorem tp_cw17 : lw_tbl[(tp_mpl.getD 17 (0, 0, 0, 0)).1]? = some (.code (tp_y 17) (tp_cc 17) (tp_n 17) (tp_ret 17)) := by decide +kernel
theorem tp_cw18 : lw_tbl[(tp_mpl.getD 18 (0, 0, 0, 0)).1]? = some (.code (tp_y 18) (tp_cc 18) (tp_n 18) (tp_ret 18)) := by decide +kernel
theorem tp_cw19 : lw_tbl[(tp_mpl.getD 19 (0, 0, 0, 0)).1]? = some (.code (tp_y 19) (tp_cc 19) (tp_n 19) (tp_ret 19)) := by decide +kernel
theorem tp_cw20 : lw_tbl[(tp_mpl.getD 20 (0, 0, 0, 0)).1]? = some (.code (tp_y 20) (tp_cc 20) (tp_n 20) (tp_ret 20)) := by decide +kernel
theorem tp_cw21 : lw_tbl[(tp_mpl.getD 21 (0, 0, 0, 0)).1]? = some (.code (tp_y 21) (tp_cc 21) (tp_n 21) (tp_ret 21)) := by decide +kernel
theorem tp_cw22 : lw_tbl[(tp_mpl.getD 22 (0, 0, 0, 0)).1]? = some (.code (tp_y 22) (tp_cc 22) (tp_n 22) (tp_ret 22)) := by decide +kernel
theorem tp_cw23 : lw_tbl[(tp_mpl.getD 23 (0, 0, 0, 0)).1]? = some (.code (tp_y 23) (tp_cc 23) (tp_n 23) (tp_ret 23)) := by decide +kernel
theorem tp_cw24 : lw_tbl[(tp_mpl.getD 24 (0, 0, 0, 0)).1]? = some (.code (tp_y 24) (tp_cc 24) (tp_n 24) (tp_ret 24)) := by decide +kernel
theorem tp_cw25 : lw_tbl[(tp_mpl.getD 25 (0, 0, 0, 0)).1]? = some (.code (tp_y 25) (tp_cc 25) (tp_n 25) (tp_ret 25)) := by decide +kernel
theorem tp_cw26 : lw_tbl[(tp_mpl.getD 26 (0, 0, 0, 0)).1]? = some (.code (tp_y 26) (tp_cc 26) (tp_n 26) (tp_ret 26)) := by decide +kernel
theorem tp_cw27 : lw_tbl[(tp_mpl.getD 27 (0, 0, 0, 0)).1]? = some (.code (tp_y 27) (tp_cc 27) (tp_n 27) (tp_ret 27)) := by decide +kernel
theorem tp_cw28 : lw_tbl[(tp_mpl.getD 28 (0, 0, 0, 0)).1]? = some (.code (tp_y 28) (tp_cc 28) (tp_n 28) (tp_ret 28)) := by decide +kernel
theorem tp_cw29 : lw_tbl[(tp_mpl.getD 29 (0, 0, 0, 0)).1]? = some (.code (tp_y 29) (tp_cc 29) (tp_n 29) (tp_ret 29)) := by decide +kernel
theorem tp_cw30 : lw_tbl[(tp_mpl.getD 30 (0, 0, 0, 0)).1]? = some (.code (tp_y 30) (tp_cc 30) (tp_n 30) (tp_ret 30)) := by decide +kernel
theorem tp_cw31 : lw_tbl[(tp_mpl.getD 31 (0, 0, 0, 0)).1]? = some (.code (tp_y 31) (tp_cc 31) (tp_n 31) (tp_ret 31)) := by decide +kernel
theorem tp_cw32 : lw_tbl[(tp_mpl.getD 32 (0, 0, 0, 0)).1]? = some (.code (tp_y 32) (tp_cc 32) (tp_n 32) (tp_ret 32)) := by decide +kernel
theorem tp_cw33 : lw_tbl[(tp_mpl.getD 33 (0, 0, 0, 0)).1]? = some (.code (tp_y 33) (tp_cc 33) (tp_n 33) (tp_ret 33)) := by decide +kernel
theorem tp_cw34 : lw_tbl[(tp_mpl.getD 34 (0, 0, 0, 0)).1]? = some (.code (tp_y 34) (tp_cc 34) (tp_n 34) (tp_ret 34)) := by decide +kernel
theorem tp_cw35 : lw_tbl[(tp_mpl.getD 35 (0, 0, 0, 0)).1]? = some (.code (tp_y 35) (tp_cc 35) (tp_n 35) (tp_ret 35)) := by decide +kernel
theorem tp_cw36 : lw_tbl[(tp_mpl.getD 36 (0, 0, 0, 0)).1]? = some (.code (tp_y 36) (tp_cc 36) (tp_n 36) (tp_ret 36)) := by decide +kernel
theorem tp_cw37 : lw_tbl[(tp_mpl.getD 37 (0, 0, 0, 0)).1]? = some (.code (tp_y 37) (tp_cc 37) (tp_n 37) (tp_ret 37)) := by decide +kernel
theorem tp_cw38 : lw_tbl[(tp_mpl.getD 38 (0, 0, 0, 0)).1]? = some (.code (tp_y 38) (tp_cc 38) (tp_n 38) (tp_ret 38)) := by decide +kernel
theorem tp_cw39 : lw_tbl[(tp_mpl.getD 39 (0, 0, 0, 0)).1]? = some (.code (tp_y 39) (tp_cc 39) (tp_n 39) (tp_ret 39)) := by decide +kernel
theorem tp_cw40 : lw_tbl[(tp_mpl.getD 40 (0, 0, 0, 0)).1]? = some (.code (tp_y 40) (tp_cc 40) (tp_n 40) (tp_ret 40)) := by decide +kernel
theorem tp_cw41 : lw_tbl[(tp_mpl.getD 41 (0, 0, 0, 0)).1]? = some (.code (tp_y 41) (tp_cc 41) (tp_n 41) (tp_ret 41)) := by decide +kernel
theorem tp_cw42 : lw_tbl[(tp_mpl.getD 42 (0, 0, 0, 0)).1]? = some (.code (tp_y 42) (tp_cc 42) (tp_n 42) (tp_ret 42)) := by decide +kernel
theorem tp_okMs : (List.range 43).all tp_okM = true := by decide +kernel
