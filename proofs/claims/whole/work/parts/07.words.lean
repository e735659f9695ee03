theorem bk_w0 : bk_PW bk_m0 := (by decide +kernel : bk_pw bk_m0 = true)
theorem bk_w1 : bk_PW bk_m1 := (by decide +kernel : bk_pw bk_m1 = true)
theorem bk_w2 : bk_PW bk_m2 := (by decide +kernel : bk_pw bk_m2 = true)
theorem bk_w3 : bk_PW bk_m3 := (by decide +kernel : bk_pw bk_m3 = true)
