def f_law_0 (gL : Nat) (xs : Nat → Int32) (k18 : Int32 → fr_N → fr_N → Option Bool) (x3 : Int32) (n0 u0 : fr_N) : Option Bool := fr_ck (x3 + (1 : Int32)) gL (fr_bd2 (fX7_feed (xs (Int32.toNatClampNeg (x3 + (1 : Int32)))) n0) fun r30 n32 => (fr_ck (x3 + (1 : Int32)) gL (fr_bd2 (fX8_feed (xs (Int32.toNatClampNeg (x3 + (1 : Int32)))) u0) fun r34 n36 => (if r30 = r34 then k18 (x3 + (5 : Int32)) n32 n36 else some false))))
def f_law_1 (gL : Nat) (xs : Nat → Int32) (k18 : Int32 → fr_N → fr_N → Option Bool) (x3 : Int32) (n0 u0 : fr_N) : Option Bool := fr_bd2 (fX7_book n0) fun r38 n40 => (fr_bd2 (fX8_book u0) fun r41 n43 => (if r38 = r41 then k18 (x3 + (5 : Int32)) n40 n43 else some false))
def f_law_2 (gL : Nat) (xs : Nat → Int32) (k18 : Int32 → fr_N → fr_N → Option Bool) (x3 : Int32) (n0 u0 : fr_N) : Option Bool := fr_bd (fX7_fault n0) fun r45 => (fr_bd (fX8_fault u0) fun r47 => (if r45 = r47 then k18 (x3 + (5 : Int32)) n0 u0 else some false))
def f_law_3 (gL : Nat) (xs : Nat → Int32) (k18 : Int32 → fr_N → fr_N → Option Bool) (x3 : Int32) (n0 u0 : fr_N) : Option Bool := fr_bd2 (fX7_undo n0) fun r50 n52 => (fr_bd2 (fX8_undo u0) fun r53 n55 => (if r50 = r53 then k18 (x3 + (5 : Int32)) n52 n55 else some false))
def f_law_4 (gL : Nat) (xs : Nat → Int32) (k18 : Int32 → fr_N → fr_N → Option Bool) (x3 : Int32) (n0 u0 : fr_N) : Option Bool := fr_ck (x3 + (1 : Int32)) gL (fr_ck (x3 + (2 : Int32)) gL (fr_ck (x3 + (3 : Int32)) gL (fr_bd2 (fX7_alter (xs (Int32.toNatClampNeg (x3 + (1 : Int32)))) (xs (Int32.toNatClampNeg (x3 + (2 : Int32)))) (xs (Int32.toNatClampNeg (x3 + (3 : Int32)))) n0) fun r60 n62 => (fr_ck (x3 + (1 : Int32)) gL (fr_ck (x3 + (2 : Int32)) gL (fr_ck (x3 + (3 : Int32)) gL (fr_bd2 (fX8_alter (xs (Int32.toNatClampNeg (x3 + (1 : Int32)))) (xs (Int32.toNatClampNeg (x3 + (2 : Int32)))) (xs (Int32.toNatClampNeg (x3 + (3 : Int32)))) u0) fun r66 n68 => (if r60 = r66 then k18 (x3 + (5 : Int32)) n62 n68 else some false))))))))
def f_law_5 (gL : Nat) (xs : Nat → Int32) (k18 : Int32 → fr_N → fr_N → Option Bool) (x3 : Int32) (n0 u0 : fr_N) : Option Bool := fr_ck (x3 + (1 : Int32)) gL (fr_ck (x3 + (2 : Int32)) gL (fr_ck (x3 + (3 : Int32)) gL (fr_ck (x3 + (4 : Int32)) gL (fr_bd2 (fX7_add (xs (Int32.toNatClampNeg (x3 + (1 : Int32)))) (xs (Int32.toNatClampNeg (x3 + (2 : Int32)))) (xs (Int32.toNatClampNeg (x3 + (3 : Int32)))) (xs (Int32.toNatClampNeg (x3 + (4 : Int32)))) n0) fun r74 n76 => (fr_ck (x3 + (1 : Int32)) gL (fr_ck (x3 + (2 : Int32)) gL (fr_ck (x3 + (3 : Int32)) gL (fr_ck (x3 + (4 : Int32)) gL (fr_bd2 (fX8_add (xs (Int32.toNatClampNeg (x3 + (1 : Int32)))) (xs (Int32.toNatClampNeg (x3 + (2 : Int32)))) (xs (Int32.toNatClampNeg (x3 + (3 : Int32)))) (xs (Int32.toNatClampNeg (x3 + (4 : Int32)))) u0) fun r81 n83 => (if r74 = r81 then k18 (x3 + (5 : Int32)) n76 n83 else some false))))))))))
def f_law_6 (gL : Nat) (xs : Nat → Int32) (k18 : Int32 → fr_N → fr_N → Option Bool) (x3 : Int32) (n0 u0 : fr_N) : Option Bool := fr_ck (x3 + (1 : Int32)) gL (fr_ck (x3 + (2 : Int32)) gL (fr_bd2 (fX7_law (xs (Int32.toNatClampNeg (x3 + (1 : Int32)))) (xs (Int32.toNatClampNeg (x3 + (2 : Int32)))) n0) fun r87 n89 => (fr_ck (x3 + (1 : Int32)) gL (fr_ck (x3 + (2 : Int32)) gL (fr_bd2 (fX8_law (xs (Int32.toNatClampNeg (x3 + (1 : Int32)))) (xs (Int32.toNatClampNeg (x3 + (2 : Int32)))) u0) fun r92 n94 => (if r87 = r92 then k18 (x3 + (5 : Int32)) n89 n94 else some false))))))
def f_law_7 (gL : Nat) (xs : Nat → Int32) (k18 : Int32 → fr_N → fr_N → Option Bool) (x3 : Int32) (n0 u0 : fr_N) : Option Bool := fr_ck (x3 + (1 : Int32)) gL (fr_ck (x3 + (2 : Int32)) gL (fr_ck (x3 + (3 : Int32)) gL (fr_bd2 (fX7_away (xs (Int32.toNatClampNeg (x3 + (1 : Int32)))) (xs (Int32.toNatClampNeg (x3 + (2 : Int32)))) (xs (Int32.toNatClampNeg (x3 + (3 : Int32)))) n0) fun r99 n101 => (fr_ck (x3 + (1 : Int32)) gL (fr_ck (x3 + (2 : Int32)) gL (fr_ck (x3 + (3 : Int32)) gL (fr_bd2 (fX8_away (xs (Int32.toNatClampNeg (x3 + (1 : Int32)))) (xs (Int32.toNatClampNeg (x3 + (2 : Int32)))) (xs (Int32.toNatClampNeg (x3 + (3 : Int32)))) u0) fun r105 n107 => (if r99 = r105 then k18 (x3 + (5 : Int32)) n101 n107 else some false))))))))
def f_law_8 (gL : Nat) (xs : Nat → Int32) (k18 : Int32 → fr_N → fr_N → Option Bool) (x3 : Int32) (n0 u0 : fr_N) : Option Bool := fr_ck (x3 + (1 : Int32)) gL (fr_ck (x3 + (2 : Int32)) gL (fr_bd (fX7_feast (xs (Int32.toNatClampNeg (x3 + (1 : Int32)))) (xs (Int32.toNatClampNeg (x3 + (2 : Int32)))) n0) fun r111 => (fr_ck (x3 + (1 : Int32)) gL (fr_ck (x3 + (2 : Int32)) gL (fr_bd (fX8_feast (xs (Int32.toNatClampNeg (x3 + (1 : Int32)))) (xs (Int32.toNatClampNeg (x3 + (2 : Int32)))) u0) fun r115 => (if r111 = r115 then k18 (x3 + (5 : Int32)) n0 u0 else some false))))))
def f_law_9 (gL : Nat) (xs : Nat → Int32) (k18 : Int32 → fr_N → fr_N → Option Bool) (x3 : Int32) (n0 u0 : fr_N) : Option Bool := fr_ck (x3 + (1 : Int32)) gL (fr_ck (x3 + (2 : Int32)) gL (fr_bd2 (fX7_year (xs (Int32.toNatClampNeg (x3 + (1 : Int32)))) (xs (Int32.toNatClampNeg (x3 + (2 : Int32)))) n0) fun r120 n122 => (fr_ck (x3 + (1 : Int32)) gL (fr_ck (x3 + (2 : Int32)) gL (fr_bd2 (fX8_year (xs (Int32.toNatClampNeg (x3 + (1 : Int32)))) (xs (Int32.toNatClampNeg (x3 + (2 : Int32)))) u0) fun r125 n127 => (if r120 = r125 then k18 (x3 + (5 : Int32)) n122 n127 else some false))))))
def f_law_10 (gL : Nat) (xs : Nat → Int32) (k18 : Int32 → fr_N → fr_N → Option Bool) (x3 : Int32) (n0 u0 : fr_N) : Option Bool := fr_ck (x3 + (1 : Int32)) gL (fr_ck (x3 + (2 : Int32)) gL (fr_ck (x3 + (3 : Int32)) gL (fr_bd2 (fX7_day (xs (Int32.toNatClampNeg (x3 + (1 : Int32)))) (xs (Int32.toNatClampNeg (x3 + (2 : Int32)))) (xs (Int32.toNatClampNeg (x3 + (3 : Int32)))) n0) fun r132 n134 => (fr_ck (x3 + (1 : Int32)) gL (fr_ck (x3 + (2 : Int32)) gL (fr_ck (x3 + (3 : Int32)) gL (fr_bd2 (fX8_day (xs (Int32.toNatClampNeg (x3 + (1 : Int32)))) (xs (Int32.toNatClampNeg (x3 + (2 : Int32)))) (xs (Int32.toNatClampNeg (x3 + (3 : Int32)))) u0) fun r138 n140 => (if r132 = r138 then k18 (x3 + (5 : Int32)) n134 n140 else some false))))))))
def f_law_11 (gL : Nat) (xs : Nat → Int32) (k18 : Int32 → fr_N → fr_N → Option Bool) (x3 : Int32) (n0 u0 : fr_N) : Option Bool := fr_ck (x3 + (1 : Int32)) gL (fr_ck (x3 + (2 : Int32)) gL (fr_ck (x3 + (3 : Int32)) gL (fr_bd2 (fX7_held (xs (Int32.toNatClampNeg (x3 + (1 : Int32)))) (xs (Int32.toNatClampNeg (x3 + (2 : Int32)))) (xs (Int32.toNatClampNeg (x3 + (3 : Int32)))) n0) fun r145 n147 => (fr_ck (x3 + (1 : Int32)) gL (fr_ck (x3 + (2 : Int32)) gL (fr_ck (x3 + (3 : Int32)) gL (fr_bd2 (fX8_held (xs (Int32.toNatClampNeg (x3 + (1 : Int32)))) (xs (Int32.toNatClampNeg (x3 + (2 : Int32)))) (xs (Int32.toNatClampNeg (x3 + (3 : Int32)))) u0) fun r151 n153 => (if r145 = r151 then k18 (x3 + (5 : Int32)) n147 n153 else some false))))))))
def f_law_12 (gL : Nat) (xs : Nat → Int32) (k18 : Int32 → fr_N → fr_N → Option Bool) (x3 : Int32) (n0 u0 : fr_N) : Option Bool := fr_ck (x3 + (1 : Int32)) gL (fr_ck (x3 + (2 : Int32)) gL (fr_ck (x3 + (3 : Int32)) gL (fr_bd2 (fX7_psalm (xs (Int32.toNatClampNeg (x3 + (1 : Int32)))) (xs (Int32.toNatClampNeg (x3 + (2 : Int32)))) (xs (Int32.toNatClampNeg (x3 + (3 : Int32)))) n0) fun r158 n160 => (fr_ck (x3 + (1 : Int32)) gL (fr_ck (x3 + (2 : Int32)) gL (fr_ck (x3 + (3 : Int32)) gL (fr_bd2 (fX8_psalm (xs (Int32.toNatClampNeg (x3 + (1 : Int32)))) (xs (Int32.toNatClampNeg (x3 + (2 : Int32)))) (xs (Int32.toNatClampNeg (x3 + (3 : Int32)))) u0) fun r164 n166 => (if r158 = r164 then k18 (x3 + (5 : Int32)) n160 n166 else some false))))))))
def f_law_13 (gL : Nat) (xs : Nat → Int32) (k18 : Int32 → fr_N → fr_N → Option Bool) (x3 : Int32) (n0 u0 : fr_N) : Option Bool := fr_ck (x3 + (1 : Int32)) gL (fr_ck (x3 + (2 : Int32)) gL (fr_ck (x3 + (3 : Int32)) gL (fr_bd2 (fX7_read (xs (Int32.toNatClampNeg (x3 + (1 : Int32)))) (xs (Int32.toNatClampNeg (x3 + (2 : Int32)))) (xs (Int32.toNatClampNeg (x3 + (3 : Int32)))) n0) fun r171 n173 => (fr_ck (x3 + (1 : Int32)) gL (fr_ck (x3 + (2 : Int32)) gL (fr_ck (x3 + (3 : Int32)) gL (fr_bd2 (fX8_read (xs (Int32.toNatClampNeg (x3 + (1 : Int32)))) (xs (Int32.toNatClampNeg (x3 + (2 : Int32)))) (xs (Int32.toNatClampNeg (x3 + (3 : Int32)))) u0) fun r177 n179 => (if r171 = r177 then k18 (x3 + (5 : Int32)) n173 n179 else some false))))))))
def f_law_14 (gL : Nat) (xs : Nat → Int32) (k18 : Int32 → fr_N → fr_N → Option Bool) (x3 : Int32) (n0 u0 : fr_N) : Option Bool := fr_ck (x3 + (1 : Int32)) gL (fr_ck (x3 + (2 : Int32)) gL (fr_ck (x3 + (3 : Int32)) gL (fr_bd2 (fX7_sings (xs (Int32.toNatClampNeg (x3 + (1 : Int32)))) (xs (Int32.toNatClampNeg (x3 + (2 : Int32)))) (xs (Int32.toNatClampNeg (x3 + (3 : Int32)))) n0) fun r184 n186 => (fr_ck (x3 + (1 : Int32)) gL (fr_ck (x3 + (2 : Int32)) gL (fr_ck (x3 + (3 : Int32)) gL (fr_bd2 (fX8_sings (xs (Int32.toNatClampNeg (x3 + (1 : Int32)))) (xs (Int32.toNatClampNeg (x3 + (2 : Int32)))) (xs (Int32.toNatClampNeg (x3 + (3 : Int32)))) u0) fun r190 n192 => (if r184 = r190 then k18 (x3 + (5 : Int32)) n186 n192 else some false))))))))
def f_law_15 (gL : Nat) (xs : Nat → Int32) (k18 : Int32 → fr_N → fr_N → Option Bool) (x3 : Int32) (n0 u0 : fr_N) : Option Bool := fr_ck (x3 + (1 : Int32)) gL (fr_ck (x3 + (2 : Int32)) gL (fr_ck (x3 + (3 : Int32)) gL (fr_bd2 (fX7_duties (xs (Int32.toNatClampNeg (x3 + (1 : Int32)))) (xs (Int32.toNatClampNeg (x3 + (2 : Int32)))) (xs (Int32.toNatClampNeg (x3 + (3 : Int32)))) n0) fun r197 n199 => (fr_ck (x3 + (1 : Int32)) gL (fr_ck (x3 + (2 : Int32)) gL (fr_ck (x3 + (3 : Int32)) gL (fr_bd2 (fX8_duties (xs (Int32.toNatClampNeg (x3 + (1 : Int32)))) (xs (Int32.toNatClampNeg (x3 + (2 : Int32)))) (xs (Int32.toNatClampNeg (x3 + (3 : Int32)))) u0) fun r203 n205 => (if r197 = r203 then k18 (x3 + (5 : Int32)) n199 n205 else some false))))))))
def f_law_16 (gL : Nat) (xs : Nat → Int32) (k18 : Int32 → fr_N → fr_N → Option Bool) (x3 : Int32) (n0 u0 : fr_N) : Option Bool := fr_ck (x3 + (1 : Int32)) gL (fr_bd2 (fX7_fair (xs (Int32.toNatClampNeg (x3 + (1 : Int32)))) n0) fun r208 n210 => (fr_ck (x3 + (1 : Int32)) gL (fr_bd2 (fX8_fair (xs (Int32.toNatClampNeg (x3 + (1 : Int32)))) u0) fun r212 n214 => (if r208 = r212 then k18 (x3 + (5 : Int32)) n210 n214 else some false))))
def f_law_17 (gL : Nat) (xs : Nat → Int32) (k18 : Int32 → fr_N → fr_N → Option Bool) (x3 : Int32) (n0 u0 : fr_N) : Option Bool := fr_ck (x3 + (1 : Int32)) gL (fr_ck (x3 + (2 : Int32)) gL (fr_ck (x3 + (3 : Int32)) gL (fr_bd2 (fX7_meet (xs (Int32.toNatClampNeg (x3 + (1 : Int32)))) (xs (Int32.toNatClampNeg (x3 + (2 : Int32)))) (xs (Int32.toNatClampNeg (x3 + (3 : Int32)))) n0) fun r219 n221 => (fr_ck (x3 + (1 : Int32)) gL (fr_ck (x3 + (2 : Int32)) gL (fr_ck (x3 + (3 : Int32)) gL (fr_bd2 (fX8_meet (xs (Int32.toNatClampNeg (x3 + (1 : Int32)))) (xs (Int32.toNatClampNeg (x3 + (2 : Int32)))) (xs (Int32.toNatClampNeg (x3 + (3 : Int32)))) u0) fun r225 n227 => (if r219 = r225 then k18 (x3 + (5 : Int32)) n221 n227 else some false))))))))
def f_law_18 (gL : Nat) (xs : Nat → Int32) (k18 : Int32 → fr_N → fr_N → Option Bool) (x3 : Int32) (n0 u0 : fr_N) : Option Bool := fr_ck (x3 + (1 : Int32)) gL (fr_ck (x3 + (2 : Int32)) gL (fr_ck (x3 + (3 : Int32)) gL (fr_bd2 (fX7_springs (xs (Int32.toNatClampNeg (x3 + (1 : Int32)))) (xs (Int32.toNatClampNeg (x3 + (2 : Int32)))) (xs (Int32.toNatClampNeg (x3 + (3 : Int32)))) n0) fun r232 n234 => (fr_ck (x3 + (1 : Int32)) gL (fr_ck (x3 + (2 : Int32)) gL (fr_ck (x3 + (3 : Int32)) gL (fr_bd2 (fX8_springs (xs (Int32.toNatClampNeg (x3 + (1 : Int32)))) (xs (Int32.toNatClampNeg (x3 + (2 : Int32)))) (xs (Int32.toNatClampNeg (x3 + (3 : Int32)))) u0) fun r238 n240 => (if r232 = r238 then k18 (x3 + (5 : Int32)) n234 n240 else some false))))))))
def f_law_19 (gL : Nat) (xs : Nat → Int32) (k18 : Int32 → fr_N → fr_N → Option Bool) (x3 : Int32) (n0 u0 : fr_N) : Option Bool := fr_ck (x3 + (1 : Int32)) gL (fr_ck (x3 + (2 : Int32)) gL (fr_ck (x3 + (3 : Int32)) gL (fr_ck (x3 + (4 : Int32)) gL (fr_bd2 (fX7_often (xs (Int32.toNatClampNeg (x3 + (1 : Int32)))) (xs (Int32.toNatClampNeg (x3 + (2 : Int32)))) (xs (Int32.toNatClampNeg (x3 + (3 : Int32)))) (xs (Int32.toNatClampNeg (x3 + (4 : Int32)))) n0) fun r246 n248 => (fr_ck (x3 + (1 : Int32)) gL (fr_ck (x3 + (2 : Int32)) gL (fr_ck (x3 + (3 : Int32)) gL (fr_ck (x3 + (4 : Int32)) gL (fr_bd2 (fX8_often (xs (Int32.toNatClampNeg (x3 + (1 : Int32)))) (xs (Int32.toNatClampNeg (x3 + (2 : Int32)))) (xs (Int32.toNatClampNeg (x3 + (3 : Int32)))) (xs (Int32.toNatClampNeg (x3 + (4 : Int32)))) u0) fun r253 n255 => (if r246 = r253 then k18 (x3 + (5 : Int32)) n248 n255 else some false))))))))))
def f_law_20 (gL : Nat) (xs : Nat → Int32) (k18 : Int32 → fr_N → fr_N → Option Bool) (x3 : Int32) (n0 u0 : fr_N) : Option Bool := fr_ck (x3 + (1 : Int32)) gL (fr_ck (x3 + (2 : Int32)) gL (fr_bd2 (fX7_enough (xs (Int32.toNatClampNeg (x3 + (1 : Int32)))) (xs (Int32.toNatClampNeg (x3 + (2 : Int32)))) n0) fun r259 n261 => (fr_ck (x3 + (1 : Int32)) gL (fr_ck (x3 + (2 : Int32)) gL (fr_bd2 (fX8_enough (xs (Int32.toNatClampNeg (x3 + (1 : Int32)))) (xs (Int32.toNatClampNeg (x3 + (2 : Int32)))) u0) fun r264 n266 => (if r259 = r264 then k18 (x3 + (5 : Int32)) n261 n266 else some false))))))
def f_law_21 (gL : Nat) (xs : Nat → Int32) (k18 : Int32 → fr_N → fr_N → Option Bool) (x3 : Int32) (n0 u0 : fr_N) : Option Bool := fr_ck (x3 + (1 : Int32)) gL (fr_bd2 (fX7_best (xs (Int32.toNatClampNeg (x3 + (1 : Int32)))) n0) fun r269 n271 => (fr_ck (x3 + (1 : Int32)) gL (fr_bd2 (fX8_best (xs (Int32.toNatClampNeg (x3 + (1 : Int32)))) u0) fun r273 n275 => (if r269 = r273 then k18 (x3 + (5 : Int32)) n271 n275 else some false))))
def f_law_22 (gL : Nat) (xs : Nat → Int32) (k18 : Int32 → fr_N → fr_N → Option Bool) (x3 : Int32) (n0 u0 : fr_N) : Option Bool := fr_ck (x3 + (1 : Int32)) gL (fr_ck (x3 + (2 : Int32)) gL (fr_bd2 (fX7_bars (xs (Int32.toNatClampNeg (x3 + (1 : Int32)))) (xs (Int32.toNatClampNeg (x3 + (2 : Int32)))) n0) fun r279 n281 => (fr_ck (x3 + (1 : Int32)) gL (fr_ck (x3 + (2 : Int32)) gL (fr_bd2 (fX8_bars (xs (Int32.toNatClampNeg (x3 + (1 : Int32)))) (xs (Int32.toNatClampNeg (x3 + (2 : Int32)))) u0) fun r284 n286 => (if r279 = r284 then k18 (x3 + (5 : Int32)) n281 n286 else some false))))))
def f_law_23 (gL : Nat) (xs : Nat → Int32) (k18 : Int32 → fr_N → fr_N → Option Bool) (x3 : Int32) (n0 u0 : fr_N) : Option Bool := fr_ck (x3 + (1 : Int32)) gL (fr_bd2 (fX7_image (xs (Int32.toNatClampNeg (x3 + (1 : Int32)))) n0) fun r289 n291 => (fr_ck (x3 + (1 : Int32)) gL (fr_bd2 (fX8_image (xs (Int32.toNatClampNeg (x3 + (1 : Int32)))) u0) fun r293 n295 => (if r289 = r293 then k18 (x3 + (5 : Int32)) n291 n295 else some false))))
def f_law_24 (gL : Nat) (xs : Nat → Int32) (k18 : Int32 → fr_N → fr_N → Option Bool) (x3 : Int32) (n0 u0 : fr_N) : Option Bool := fr_ck (x3 + (1 : Int32)) gL (fr_bd2 (fX7_restore (xs (Int32.toNatClampNeg (x3 + (1 : Int32)))) n0) fun r298 n300 => (fr_ck (x3 + (1 : Int32)) gL (fr_bd2 (fX8_restore (xs (Int32.toNatClampNeg (x3 + (1 : Int32)))) u0) fun r302 n304 => (if r298 = r302 then k18 (x3 + (5 : Int32)) n300 n304 else some false))))
def f_law_25 (gL : Nat) (xs : Nat → Int32) (k18 : Int32 → fr_N → fr_N → Option Bool) (x3 : Int32) (n0 u0 : fr_N) : Option Bool := fr_ck (x3 + (1 : Int32)) gL (fr_bd (fX7_count (xs (Int32.toNatClampNeg (x3 + (1 : Int32)))) n0) fun r307 => (fr_ck (x3 + (1 : Int32)) gL (fr_bd (fX8_count (xs (Int32.toNatClampNeg (x3 + (1 : Int32)))) u0) fun r310 => (if r307 = r310 then k18 (x3 + (5 : Int32)) n0 u0 else some false))))
set_option maxRecDepth 20000 in
theorem t_law_0 {K : fr_K} {gL : Nat} {xs : Nat → Int32} {k18 : Int32 → fr_N → fr_N → Option Bool} {x3 : Int32} {n0 u0 : fr_N} (F : fr_F Y_law K) (X : fr_X K gL xs) (E : fr_E K) (ih : ∀ (x3 : Int32) (n0 u0 : fr_N), k18 x3 n0 u0 = some true → fr_V Y_law K 18 [some (.ref 70), some (.ref 0), some (.ref 52), some (.int x3)] [] (n0, u0)) (h : f_law_0 gL xs k18 x3 n0 u0 = some true) : fr_V Y_law K 152 [some (.ref 70), some (.ref 0), some (.ref 52), some (.int x3)] [] (n0, u0) := by
  rw [f_law_0] at h
  refine fr_aload_n (q := 153) F dL_law_152 rfl rfl ?_
  refine fr_aload_n (q := 154) F dL_law_153 rfl rfl ?_
  refine fr_iload_n (q := 155) F dL_law_154 rfl rfl ?_
  refine fr_iconst (q := 156) (v := 1) F dL_law_155 rfl (by decide) ?_
  refine fr_iadd (q := 157) F dL_law_156 rfl ?_
  obtain ⟨hi29, h⟩ := fr_ck_some h
  refine fr_sal (q := 158) F X hi29 dL_law_157 rfl ?_
  obtain ⟨r30, n32, hr31, h⟩ := fr_bd2_some h
  refine fr_callV (q := 161) (M' := (n32, u0)) (rest := []) (st' := [.int r30]) F dL_law_158 rfl (tX7_feed hr31) mlL_13 msX7_feed ⟨Nat.le_of_ble_eq_true rfl, Nat.le_of_ble_eq_true rfl⟩ (by decide) rfl rfl rfl (Nat.le_of_ble_eq_true rfl) rfl ?_
  refine fr_aload_n (q := 162) F dL_law_161 rfl rfl ?_
  refine fr_aload_n (q := 163) F dL_law_162 rfl rfl ?_
  refine fr_iload_n (q := 164) F dL_law_163 rfl rfl ?_
  refine fr_iconst (q := 165) (v := 1) F dL_law_164 rfl (by decide) ?_
  refine fr_iadd (q := 166) F dL_law_165 rfl ?_
  obtain ⟨hi33, h⟩ := fr_ck_some h
  refine fr_sal (q := 167) F X hi33 dL_law_166 rfl ?_
  obtain ⟨r34, n36, hr35, h⟩ := fr_bd2_some h
  refine fr_callV (q := 170) (M' := (n32, n36)) (rest := [.int r30]) (st' := [.int r34, .int r30]) F dL_law_167 rfl (tX8_feed hr35) mlL_17 msX8_feed ⟨Nat.le_of_ble_eq_true rfl, Nat.le_of_ble_eq_true rfl⟩ (by decide) rfl rfl rfl (Nat.le_of_ble_eq_true rfl) rfl ?_
  refine fr_icmp_eq (q := 173) (tgt := 1030) F dL_law_170 (by decide) rfl (fun hc37 => ?_) (fun hc37 => ?_)
  · rw [if_pos hc37] at h
    refine fr_iinc (q := 1033) (v := (x3 + (5 : Int32))) F dL_law_1030 rfl rfl rfl (by decide) rfl ?_
    refine fr_goto (tgt := 18) F dL_law_1033 (by decide) ?_
    exact fr_wj (ih _ _ _ h) ⟨rfl, ⟨rfl, ⟨rfl, ⟨rfl, trivial⟩⟩⟩⟩
  · rw [if_neg hc37] at h
    refine fr_iconst (q := 174) (v := 0) F dL_law_173 rfl (by decide) ?_
    cases h
set_option maxRecDepth 20000 in
theorem t_law_1 {K : fr_K} {gL : Nat} {xs : Nat → Int32} {k18 : Int32 → fr_N → fr_N → Option Bool} {x3 : Int32} {n0 u0 : fr_N} (F : fr_F Y_law K) (X : fr_X K gL xs) (E : fr_E K) (ih : ∀ (x3 : Int32) (n0 u0 : fr_N), k18 x3 n0 u0 = some true → fr_V Y_law K 18 [some (.ref 70), some (.ref 0), some (.ref 52), some (.int x3)] [] (n0, u0)) (h : f_law_1 gL xs k18 x3 n0 u0 = some true) : fr_V Y_law K 175 [some (.ref 70), some (.ref 0), some (.ref 52), some (.int x3)] [] (n0, u0) := by
  rw [f_law_1] at h
  refine fr_aload_n (q := 176) F dL_law_175 rfl rfl ?_
  obtain ⟨r38, n40, hr39, h⟩ := fr_bd2_some h
  refine fr_callV (q := 179) (M' := (n40, u0)) (rest := []) (st' := [.int r38]) F dL_law_176 rfl (tX7_book hr39) mlL_18 msX7_book ⟨Nat.le_of_ble_eq_true rfl, Nat.le_of_ble_eq_true rfl⟩ (by decide) rfl rfl rfl (Nat.le_of_ble_eq_true rfl) rfl ?_
  refine fr_aload_n (q := 180) F dL_law_179 rfl rfl ?_
  obtain ⟨r41, n43, hr42, h⟩ := fr_bd2_some h
  refine fr_callV (q := 183) (M' := (n40, n43)) (rest := [.int r38]) (st' := [.int r41, .int r38]) F dL_law_180 rfl (tX8_book hr42) mlL_22 msX8_book ⟨Nat.le_of_ble_eq_true rfl, Nat.le_of_ble_eq_true rfl⟩ (by decide) rfl rfl rfl (Nat.le_of_ble_eq_true rfl) rfl ?_
  refine fr_icmp_eq (q := 186) (tgt := 1030) F dL_law_183 (by decide) rfl (fun hc44 => ?_) (fun hc44 => ?_)
  · rw [if_pos hc44] at h
    refine fr_iinc (q := 1033) (v := (x3 + (5 : Int32))) F dL_law_1030 rfl rfl rfl (by decide) rfl ?_
    refine fr_goto (tgt := 18) F dL_law_1033 (by decide) ?_
    exact fr_wj (ih _ _ _ h) ⟨rfl, ⟨rfl, ⟨rfl, ⟨rfl, trivial⟩⟩⟩⟩
  · rw [if_neg hc44] at h
    refine fr_iconst (q := 187) (v := 0) F dL_law_186 rfl (by decide) ?_
    cases h
set_option maxRecDepth 20000 in
theorem t_law_2 {K : fr_K} {gL : Nat} {xs : Nat → Int32} {k18 : Int32 → fr_N → fr_N → Option Bool} {x3 : Int32} {n0 u0 : fr_N} (F : fr_F Y_law K) (X : fr_X K gL xs) (E : fr_E K) (ih : ∀ (x3 : Int32) (n0 u0 : fr_N), k18 x3 n0 u0 = some true → fr_V Y_law K 18 [some (.ref 70), some (.ref 0), some (.ref 52), some (.int x3)] [] (n0, u0)) (h : f_law_2 gL xs k18 x3 n0 u0 = some true) : fr_V Y_law K 188 [some (.ref 70), some (.ref 0), some (.ref 52), some (.int x3)] [] (n0, u0) := by
  rw [f_law_2] at h
  refine fr_aload_n (q := 189) F dL_law_188 rfl rfl ?_
  obtain ⟨r45, hr46, h⟩ := fr_bd_some h
  refine fr_callV (q := 192) (M' := (n0, u0)) (rest := []) (st' := [.int r45]) F dL_law_189 rfl (tX7_fault hr46) mlL_23 msX7_fault ⟨Nat.le_of_ble_eq_true rfl, Nat.le_of_ble_eq_true rfl⟩ (by decide) rfl rfl rfl (Nat.le_of_ble_eq_true rfl) rfl ?_
  refine fr_aload_n (q := 193) F dL_law_192 rfl rfl ?_
  obtain ⟨r47, hr48, h⟩ := fr_bd_some h
  refine fr_callV (q := 196) (M' := (n0, u0)) (rest := [.int r45]) (st' := [.int r47, .int r45]) F dL_law_193 rfl (tX8_fault hr48) mlL_26 msX8_fault ⟨Nat.le_of_ble_eq_true rfl, Nat.le_of_ble_eq_true rfl⟩ (by decide) rfl rfl rfl (Nat.le_of_ble_eq_true rfl) rfl ?_
  refine fr_icmp_eq (q := 199) (tgt := 1030) F dL_law_196 (by decide) rfl (fun hc49 => ?_) (fun hc49 => ?_)
  · rw [if_pos hc49] at h
    refine fr_iinc (q := 1033) (v := (x3 + (5 : Int32))) F dL_law_1030 rfl rfl rfl (by decide) rfl ?_
    refine fr_goto (tgt := 18) F dL_law_1033 (by decide) ?_
    exact fr_wj (ih _ _ _ h) ⟨rfl, ⟨rfl, ⟨rfl, ⟨rfl, trivial⟩⟩⟩⟩
  · rw [if_neg hc49] at h
    refine fr_iconst (q := 200) (v := 0) F dL_law_199 rfl (by decide) ?_
    cases h
set_option maxRecDepth 20000 in
theorem t_law_3 {K : fr_K} {gL : Nat} {xs : Nat → Int32} {k18 : Int32 → fr_N → fr_N → Option Bool} {x3 : Int32} {n0 u0 : fr_N} (F : fr_F Y_law K) (X : fr_X K gL xs) (E : fr_E K) (ih : ∀ (x3 : Int32) (n0 u0 : fr_N), k18 x3 n0 u0 = some true → fr_V Y_law K 18 [some (.ref 70), some (.ref 0), some (.ref 52), some (.int x3)] [] (n0, u0)) (h : f_law_3 gL xs k18 x3 n0 u0 = some true) : fr_V Y_law K 201 [some (.ref 70), some (.ref 0), some (.ref 52), some (.int x3)] [] (n0, u0) := by
  rw [f_law_3] at h
  refine fr_aload_n (q := 202) F dL_law_201 rfl rfl ?_
  obtain ⟨r50, n52, hr51, h⟩ := fr_bd2_some h
  refine fr_callV (q := 205) (M' := (n52, u0)) (rest := []) (st' := [.int r50]) F dL_law_202 rfl (tX7_undo hr51) mlL_27 msX7_undo ⟨Nat.le_of_ble_eq_true rfl, Nat.le_of_ble_eq_true rfl⟩ (by decide) rfl rfl rfl (Nat.le_of_ble_eq_true rfl) rfl ?_
  refine fr_aload_n (q := 206) F dL_law_205 rfl rfl ?_
  obtain ⟨r53, n55, hr54, h⟩ := fr_bd2_some h
  refine fr_callV (q := 209) (M' := (n52, n55)) (rest := [.int r50]) (st' := [.int r53, .int r50]) F dL_law_206 rfl (tX8_undo hr54) mlL_30 msX8_undo ⟨Nat.le_of_ble_eq_true rfl, Nat.le_of_ble_eq_true rfl⟩ (by decide) rfl rfl rfl (Nat.le_of_ble_eq_true rfl) rfl ?_
  refine fr_icmp_eq (q := 212) (tgt := 1030) F dL_law_209 (by decide) rfl (fun hc56 => ?_) (fun hc56 => ?_)
  · rw [if_pos hc56] at h
    refine fr_iinc (q := 1033) (v := (x3 + (5 : Int32))) F dL_law_1030 rfl rfl rfl (by decide) rfl ?_
    refine fr_goto (tgt := 18) F dL_law_1033 (by decide) ?_
    exact fr_wj (ih _ _ _ h) ⟨rfl, ⟨rfl, ⟨rfl, ⟨rfl, trivial⟩⟩⟩⟩
  · rw [if_neg hc56] at h
    refine fr_iconst (q := 213) (v := 0) F dL_law_212 rfl (by decide) ?_
    cases h
set_option maxRecDepth 20000 in
theorem t_law_4 {K : fr_K} {gL : Nat} {xs : Nat → Int32} {k18 : Int32 → fr_N → fr_N → Option Bool} {x3 : Int32} {n0 u0 : fr_N} (F : fr_F Y_law K) (X : fr_X K gL xs) (E : fr_E K) (ih : ∀ (x3 : Int32) (n0 u0 : fr_N), k18 x3 n0 u0 = some true → fr_V Y_law K 18 [some (.ref 70), some (.ref 0), some (.ref 52), some (.int x3)] [] (n0, u0)) (h : f_law_4 gL xs k18 x3 n0 u0 = some true) : fr_V Y_law K 214 [some (.ref 70), some (.ref 0), some (.ref 52), some (.int x3)] [] (n0, u0) := by
  rw [f_law_4] at h
  refine fr_aload_n (q := 215) F dL_law_214 rfl rfl ?_
  refine fr_aload_n (q := 216) F dL_law_215 rfl rfl ?_
  refine fr_iload_n (q := 217) F dL_law_216 rfl rfl ?_
  refine fr_iconst (q := 218) (v := 1) F dL_law_217 rfl (by decide) ?_
  refine fr_iadd (q := 219) F dL_law_218 rfl ?_
  obtain ⟨hi57, h⟩ := fr_ck_some h
  refine fr_sal (q := 220) F X hi57 dL_law_219 rfl ?_
  refine fr_aload_n (q := 221) F dL_law_220 rfl rfl ?_
  refine fr_iload_n (q := 222) F dL_law_221 rfl rfl ?_
  refine fr_iconst (q := 223) (v := 2) F dL_law_222 rfl (by decide) ?_
  refine fr_iadd (q := 224) F dL_law_223 rfl ?_
  obtain ⟨hi58, h⟩ := fr_ck_some h
  refine fr_sal (q := 225) F X hi58 dL_law_224 rfl ?_
  refine fr_aload_n (q := 226) F dL_law_225 rfl rfl ?_
  refine fr_iload_n (q := 227) F dL_law_226 rfl rfl ?_
  refine fr_iconst (q := 228) (v := 3) F dL_law_227 rfl (by decide) ?_
  refine fr_iadd (q := 229) F dL_law_228 rfl ?_
  obtain ⟨hi59, h⟩ := fr_ck_some h
  refine fr_sal (q := 230) F X hi59 dL_law_229 rfl ?_
  obtain ⟨r60, n62, hr61, h⟩ := fr_bd2_some h
  refine fr_callV (q := 233) (M' := (n62, u0)) (rest := []) (st' := [.int r60]) F dL_law_230 rfl (tX7_alter hr61) mlL_31 msX7_alter ⟨Nat.le_of_ble_eq_true rfl, Nat.le_of_ble_eq_true rfl⟩ (by decide) rfl rfl rfl (Nat.le_of_ble_eq_true rfl) rfl ?_
  refine fr_aload_n (q := 234) F dL_law_233 rfl rfl ?_
  refine fr_aload_n (q := 235) F dL_law_234 rfl rfl ?_
  refine fr_iload_n (q := 236) F dL_law_235 rfl rfl ?_
  refine fr_iconst (q := 237) (v := 1) F dL_law_236 rfl (by decide) ?_
  refine fr_iadd (q := 238) F dL_law_237 rfl ?_
  obtain ⟨hi63, h⟩ := fr_ck_some h
  refine fr_sal (q := 239) F X hi63 dL_law_238 rfl ?_
  refine fr_aload_n (q := 240) F dL_law_239 rfl rfl ?_
  refine fr_iload_n (q := 241) F dL_law_240 rfl rfl ?_
  refine fr_iconst (q := 242) (v := 2) F dL_law_241 rfl (by decide) ?_
  refine fr_iadd (q := 243) F dL_law_242 rfl ?_
  obtain ⟨hi64, h⟩ := fr_ck_some h
  refine fr_sal (q := 244) F X hi64 dL_law_243 rfl ?_
  refine fr_aload_n (q := 245) F dL_law_244 rfl rfl ?_
  refine fr_iload_n (q := 246) F dL_law_245 rfl rfl ?_
  refine fr_iconst (q := 247) (v := 3) F dL_law_246 rfl (by decide) ?_
  refine fr_iadd (q := 248) F dL_law_247 rfl ?_
  obtain ⟨hi65, h⟩ := fr_ck_some h
  refine fr_sal (q := 249) F X hi65 dL_law_248 rfl ?_
  obtain ⟨r66, n68, hr67, h⟩ := fr_bd2_some h
  refine fr_callV (q := 252) (M' := (n62, n68)) (rest := [.int r60]) (st' := [.int r66, .int r60]) F dL_law_249 rfl (tX8_alter hr67) mlL_35 msX8_alter ⟨Nat.le_of_ble_eq_true rfl, Nat.le_of_ble_eq_true rfl⟩ (by decide) rfl rfl rfl (Nat.le_of_ble_eq_true rfl) rfl ?_
  refine fr_icmp_eq (q := 255) (tgt := 1030) F dL_law_252 (by decide) rfl (fun hc69 => ?_) (fun hc69 => ?_)
  · rw [if_pos hc69] at h
    refine fr_iinc (q := 1033) (v := (x3 + (5 : Int32))) F dL_law_1030 rfl rfl rfl (by decide) rfl ?_
    refine fr_goto (tgt := 18) F dL_law_1033 (by decide) ?_
    exact fr_wj (ih _ _ _ h) ⟨rfl, ⟨rfl, ⟨rfl, ⟨rfl, trivial⟩⟩⟩⟩
  · rw [if_neg hc69] at h
    refine fr_iconst (q := 256) (v := 0) F dL_law_255 rfl (by decide) ?_
    cases h
set_option maxRecDepth 20000 in
theorem t_law_5 {K : fr_K} {gL : Nat} {xs : Nat → Int32} {k18 : Int32 → fr_N → fr_N → Option Bool} {x3 : Int32} {n0 u0 : fr_N} (F : fr_F Y_law K) (X : fr_X K gL xs) (E : fr_E K) (ih : ∀ (x3 : Int32) (n0 u0 : fr_N), k18 x3 n0 u0 = some true → fr_V Y_law K 18 [some (.ref 70), some (.ref 0), some (.ref 52), some (.int x3)] [] (n0, u0)) (h : f_law_5 gL xs k18 x3 n0 u0 = some true) : fr_V Y_law K 257 [some (.ref 70), some (.ref 0), some (.ref 52), some (.int x3)] [] (n0, u0) := by
  rw [f_law_5] at h
  refine fr_aload_n (q := 258) F dL_law_257 rfl rfl ?_
  refine fr_aload_n (q := 259) F dL_law_258 rfl rfl ?_
  refine fr_iload_n (q := 260) F dL_law_259 rfl rfl ?_
  refine fr_iconst (q := 261) (v := 1) F dL_law_260 rfl (by decide) ?_
  refine fr_iadd (q := 262) F dL_law_261 rfl ?_
  obtain ⟨hi70, h⟩ := fr_ck_some h
  refine fr_sal (q := 263) F X hi70 dL_law_262 rfl ?_
  refine fr_aload_n (q := 264) F dL_law_263 rfl rfl ?_
  refine fr_iload_n (q := 265) F dL_law_264 rfl rfl ?_
  refine fr_iconst (q := 266) (v := 2) F dL_law_265 rfl (by decide) ?_
  refine fr_iadd (q := 267) F dL_law_266 rfl ?_
  obtain ⟨hi71, h⟩ := fr_ck_some h
  refine fr_sal (q := 268) F X hi71 dL_law_267 rfl ?_
  refine fr_aload_n (q := 269) F dL_law_268 rfl rfl ?_
  refine fr_iload_n (q := 270) F dL_law_269 rfl rfl ?_
  refine fr_iconst (q := 271) (v := 3) F dL_law_270 rfl (by decide) ?_
  refine fr_iadd (q := 272) F dL_law_271 rfl ?_
  obtain ⟨hi72, h⟩ := fr_ck_some h
  refine fr_sal (q := 273) F X hi72 dL_law_272 rfl ?_
  refine fr_aload_n (q := 274) F dL_law_273 rfl rfl ?_
  refine fr_iload_n (q := 275) F dL_law_274 rfl rfl ?_
  refine fr_iconst (q := 276) (v := 4) F dL_law_275 rfl (by decide) ?_
  refine fr_iadd (q := 277) F dL_law_276 rfl ?_
  obtain ⟨hi73, h⟩ := fr_ck_some h
  refine fr_sal (q := 278) F X hi73 dL_law_277 rfl ?_
  obtain ⟨r74, n76, hr75, h⟩ := fr_bd2_some h
  refine fr_callV (q := 281) (M' := (n76, u0)) (rest := []) (st' := [.int r74]) F dL_law_278 rfl (tX7_add hr75) mlL_36 msX7_add ⟨Nat.le_of_ble_eq_true rfl, Nat.le_of_ble_eq_true rfl⟩ (by decide) rfl rfl rfl (Nat.le_of_ble_eq_true rfl) rfl ?_
  refine fr_aload_n (q := 282) F dL_law_281 rfl rfl ?_
  refine fr_aload_n (q := 283) F dL_law_282 rfl rfl ?_
  refine fr_iload_n (q := 284) F dL_law_283 rfl rfl ?_
  refine fr_iconst (q := 285) (v := 1) F dL_law_284 rfl (by decide) ?_
  refine fr_iadd (q := 286) F dL_law_285 rfl ?_
  obtain ⟨hi77, h⟩ := fr_ck_some h
  refine fr_sal (q := 287) F X hi77 dL_law_286 rfl ?_
  refine fr_aload_n (q := 288) F dL_law_287 rfl rfl ?_
  refine fr_iload_n (q := 289) F dL_law_288 rfl rfl ?_
  refine fr_iconst (q := 290) (v := 2) F dL_law_289 rfl (by decide) ?_
  refine fr_iadd (q := 291) F dL_law_290 rfl ?_
  obtain ⟨hi78, h⟩ := fr_ck_some h
  refine fr_sal (q := 292) F X hi78 dL_law_291 rfl ?_
  refine fr_aload_n (q := 293) F dL_law_292 rfl rfl ?_
  refine fr_iload_n (q := 294) F dL_law_293 rfl rfl ?_
  refine fr_iconst (q := 295) (v := 3) F dL_law_294 rfl (by decide) ?_
  refine fr_iadd (q := 296) F dL_law_295 rfl ?_
  obtain ⟨hi79, h⟩ := fr_ck_some h
  refine fr_sal (q := 297) F X hi79 dL_law_296 rfl ?_
  refine fr_aload_n (q := 298) F dL_law_297 rfl rfl ?_
  refine fr_iload_n (q := 299) F dL_law_298 rfl rfl ?_
  refine fr_iconst (q := 300) (v := 4) F dL_law_299 rfl (by decide) ?_
  refine fr_iadd (q := 301) F dL_law_300 rfl ?_
  obtain ⟨hi80, h⟩ := fr_ck_some h
  refine fr_sal (q := 302) F X hi80 dL_law_301 rfl ?_
  obtain ⟨r81, n83, hr82, h⟩ := fr_bd2_some h
  refine fr_callV (q := 305) (M' := (n76, n83)) (rest := [.int r74]) (st' := [.int r81, .int r74]) F dL_law_302 rfl (tX8_add hr82) mlL_40 msX8_add ⟨Nat.le_of_ble_eq_true rfl, Nat.le_of_ble_eq_true rfl⟩ (by decide) rfl rfl rfl (Nat.le_of_ble_eq_true rfl) rfl ?_
  refine fr_icmp_eq (q := 308) (tgt := 1030) F dL_law_305 (by decide) rfl (fun hc84 => ?_) (fun hc84 => ?_)
  · rw [if_pos hc84] at h
    refine fr_iinc (q := 1033) (v := (x3 + (5 : Int32))) F dL_law_1030 rfl rfl rfl (by decide) rfl ?_
    refine fr_goto (tgt := 18) F dL_law_1033 (by decide) ?_
    exact fr_wj (ih _ _ _ h) ⟨rfl, ⟨rfl, ⟨rfl, ⟨rfl, trivial⟩⟩⟩⟩
  · rw [if_neg hc84] at h
    refine fr_iconst (q := 309) (v := 0) F dL_law_308 rfl (by decide) ?_
    cases h
set_option maxRecDepth 20000 in
theorem t_law_6 {K : fr_K} {gL : Nat} {xs : Nat → Int32} {k18 : Int32 → fr_N → fr_N → Option Bool} {x3 : Int32} {n0 u0 : fr_N} (F : fr_F Y_law K) (X : fr_X K gL xs) (E : fr_E K) (ih : ∀ (x3 : Int32) (n0 u0 : fr_N), k18 x3 n0 u0 = some true → fr_V Y_law K 18 [some (.ref 70), some (.ref 0), some (.ref 52), some (.int x3)] [] (n0, u0)) (h : f_law_6 gL xs k18 x3 n0 u0 = some true) : fr_V Y_law K 310 [some (.ref 70), some (.ref 0), some (.ref 52), some (.int x3)] [] (n0, u0) := by
  rw [f_law_6] at h
  refine fr_aload_n (q := 311) F dL_law_310 rfl rfl ?_
  refine fr_aload_n (q := 312) F dL_law_311 rfl rfl ?_
  refine fr_iload_n (q := 313) F dL_law_312 rfl rfl ?_
  refine fr_iconst (q := 314) (v := 1) F dL_law_313 rfl (by decide) ?_
  refine fr_iadd (q := 315) F dL_law_314 rfl ?_
  obtain ⟨hi85, h⟩ := fr_ck_some h
  refine fr_sal (q := 316) F X hi85 dL_law_315 rfl ?_
  refine fr_aload_n (q := 317) F dL_law_316 rfl rfl ?_
  refine fr_iload_n (q := 318) F dL_law_317 rfl rfl ?_
  refine fr_iconst (q := 319) (v := 2) F dL_law_318 rfl (by decide) ?_
  refine fr_iadd (q := 320) F dL_law_319 rfl ?_
  obtain ⟨hi86, h⟩ := fr_ck_some h
  refine fr_sal (q := 321) F X hi86 dL_law_320 rfl ?_
  obtain ⟨r87, n89, hr88, h⟩ := fr_bd2_some h
  refine fr_callV (q := 324) (M' := (n89, u0)) (rest := []) (st' := [.int r87]) F dL_law_321 rfl (tX7_law hr88) mlL_41 msX7_law ⟨Nat.le_of_ble_eq_true rfl, Nat.le_of_ble_eq_true rfl⟩ (by decide) rfl rfl rfl (Nat.le_of_ble_eq_true rfl) rfl ?_
  refine fr_aload_n (q := 325) F dL_law_324 rfl rfl ?_
  refine fr_aload_n (q := 326) F dL_law_325 rfl rfl ?_
  refine fr_iload_n (q := 327) F dL_law_326 rfl rfl ?_
  refine fr_iconst (q := 328) (v := 1) F dL_law_327 rfl (by decide) ?_
  refine fr_iadd (q := 329) F dL_law_328 rfl ?_
  obtain ⟨hi90, h⟩ := fr_ck_some h
  refine fr_sal (q := 330) F X hi90 dL_law_329 rfl ?_
  refine fr_aload_n (q := 331) F dL_law_330 rfl rfl ?_
  refine fr_iload_n (q := 332) F dL_law_331 rfl rfl ?_
  refine fr_iconst (q := 333) (v := 2) F dL_law_332 rfl (by decide) ?_
  refine fr_iadd (q := 334) F dL_law_333 rfl ?_
  obtain ⟨hi91, h⟩ := fr_ck_some h
  refine fr_sal (q := 335) F X hi91 dL_law_334 rfl ?_
  obtain ⟨r92, n94, hr93, h⟩ := fr_bd2_some h
  refine fr_callV (q := 338) (M' := (n89, n94)) (rest := [.int r87]) (st' := [.int r92, .int r87]) F dL_law_335 rfl (tX8_law hr93) mlL_45 msX8_law ⟨Nat.le_of_ble_eq_true rfl, Nat.le_of_ble_eq_true rfl⟩ (by decide) rfl rfl rfl (Nat.le_of_ble_eq_true rfl) rfl ?_
  refine fr_icmp_eq (q := 341) (tgt := 1030) F dL_law_338 (by decide) rfl (fun hc95 => ?_) (fun hc95 => ?_)
  · rw [if_pos hc95] at h
    refine fr_iinc (q := 1033) (v := (x3 + (5 : Int32))) F dL_law_1030 rfl rfl rfl (by decide) rfl ?_
    refine fr_goto (tgt := 18) F dL_law_1033 (by decide) ?_
    exact fr_wj (ih _ _ _ h) ⟨rfl, ⟨rfl, ⟨rfl, ⟨rfl, trivial⟩⟩⟩⟩
  · rw [if_neg hc95] at h
    refine fr_iconst (q := 342) (v := 0) F dL_law_341 rfl (by decide) ?_
    cases h
set_option maxRecDepth 20000 in
theorem t_law_7 {K : fr_K} {gL : Nat} {xs : Nat → Int32} {k18 : Int32 → fr_N → fr_N → Option Bool} {x3 : Int32} {n0 u0 : fr_N} (F : fr_F Y_law K) (X : fr_X K gL xs) (E : fr_E K) (ih : ∀ (x3 : Int32) (n0 u0 : fr_N), k18 x3 n0 u0 = some true → fr_V Y_law K 18 [some (.ref 70), some (.ref 0), some (.ref 52), some (.int x3)] [] (n0, u0)) (h : f_law_7 gL xs k18 x3 n0 u0 = some true) : fr_V Y_law K 343 [some (.ref 70), some (.ref 0), some (.ref 52), some (.int x3)] [] (n0, u0) := by
  rw [f_law_7] at h
  refine fr_aload_n (q := 344) F dL_law_343 rfl rfl ?_
  refine fr_aload_n (q := 345) F dL_law_344 rfl rfl ?_
  refine fr_iload_n (q := 346) F dL_law_345 rfl rfl ?_
  refine fr_iconst (q := 347) (v := 1) F dL_law_346 rfl (by decide) ?_
  refine fr_iadd (q := 348) F dL_law_347 rfl ?_
  obtain ⟨hi96, h⟩ := fr_ck_some h
  refine fr_sal (q := 349) F X hi96 dL_law_348 rfl ?_
  refine fr_aload_n (q := 350) F dL_law_349 rfl rfl ?_
  refine fr_iload_n (q := 351) F dL_law_350 rfl rfl ?_
  refine fr_iconst (q := 352) (v := 2) F dL_law_351 rfl (by decide) ?_
  refine fr_iadd (q := 353) F dL_law_352 rfl ?_
  obtain ⟨hi97, h⟩ := fr_ck_some h
  refine fr_sal (q := 354) F X hi97 dL_law_353 rfl ?_
  refine fr_aload_n (q := 355) F dL_law_354 rfl rfl ?_
  refine fr_iload_n (q := 356) F dL_law_355 rfl rfl ?_
  refine fr_iconst (q := 357) (v := 3) F dL_law_356 rfl (by decide) ?_
  refine fr_iadd (q := 358) F dL_law_357 rfl ?_
  obtain ⟨hi98, h⟩ := fr_ck_some h
  refine fr_sal (q := 359) F X hi98 dL_law_358 rfl ?_
  obtain ⟨r99, n101, hr100, h⟩ := fr_bd2_some h
  refine fr_callV (q := 362) (M' := (n101, u0)) (rest := []) (st' := [.int r99]) F dL_law_359 rfl (tX7_away hr100) mlL_46 msX7_away ⟨Nat.le_of_ble_eq_true rfl, Nat.le_of_ble_eq_true rfl⟩ (by decide) rfl rfl rfl (Nat.le_of_ble_eq_true rfl) rfl ?_
  refine fr_aload_n (q := 363) F dL_law_362 rfl rfl ?_
  refine fr_aload_n (q := 364) F dL_law_363 rfl rfl ?_
  refine fr_iload_n (q := 365) F dL_law_364 rfl rfl ?_
  refine fr_iconst (q := 366) (v := 1) F dL_law_365 rfl (by decide) ?_
  refine fr_iadd (q := 367) F dL_law_366 rfl ?_
  obtain ⟨hi102, h⟩ := fr_ck_some h
  refine fr_sal (q := 368) F X hi102 dL_law_367 rfl ?_
  refine fr_aload_n (q := 369) F dL_law_368 rfl rfl ?_
  refine fr_iload_n (q := 370) F dL_law_369 rfl rfl ?_
  refine fr_iconst (q := 371) (v := 2) F dL_law_370 rfl (by decide) ?_
  refine fr_iadd (q := 372) F dL_law_371 rfl ?_
  obtain ⟨hi103, h⟩ := fr_ck_some h
  refine fr_sal (q := 373) F X hi103 dL_law_372 rfl ?_
  refine fr_aload_n (q := 374) F dL_law_373 rfl rfl ?_
  refine fr_iload_n (q := 375) F dL_law_374 rfl rfl ?_
  refine fr_iconst (q := 376) (v := 3) F dL_law_375 rfl (by decide) ?_
  refine fr_iadd (q := 377) F dL_law_376 rfl ?_
  obtain ⟨hi104, h⟩ := fr_ck_some h
  refine fr_sal (q := 378) F X hi104 dL_law_377 rfl ?_
  obtain ⟨r105, n107, hr106, h⟩ := fr_bd2_some h
  refine fr_callV (q := 381) (M' := (n101, n107)) (rest := [.int r99]) (st' := [.int r105, .int r99]) F dL_law_378 rfl (tX8_away hr106) mlL_49 msX8_away ⟨Nat.le_of_ble_eq_true rfl, Nat.le_of_ble_eq_true rfl⟩ (by decide) rfl rfl rfl (Nat.le_of_ble_eq_true rfl) rfl ?_
  refine fr_icmp_eq (q := 384) (tgt := 1030) F dL_law_381 (by decide) rfl (fun hc108 => ?_) (fun hc108 => ?_)
  · rw [if_pos hc108] at h
    refine fr_iinc (q := 1033) (v := (x3 + (5 : Int32))) F dL_law_1030 rfl rfl rfl (by decide) rfl ?_
    refine fr_goto (tgt := 18) F dL_law_1033 (by decide) ?_
    exact fr_wj (ih _ _ _ h) ⟨rfl, ⟨rfl, ⟨rfl, ⟨rfl, trivial⟩⟩⟩⟩
  · rw [if_neg hc108] at h
    refine fr_iconst (q := 385) (v := 0) F dL_law_384 rfl (by decide) ?_
    cases h
set_option maxRecDepth 20000 in
theorem t_law_8 {K : fr_K} {gL : Nat} {xs : Nat → Int32} {k18 : Int32 → fr_N → fr_N → Option Bool} {x3 : Int32} {n0 u0 : fr_N} (F : fr_F Y_law K) (X : fr_X K gL xs) (E : fr_E K) (ih : ∀ (x3 : Int32) (n0 u0 : fr_N), k18 x3 n0 u0 = some true → fr_V Y_law K 18 [some (.ref 70), some (.ref 0), some (.ref 52), some (.int x3)] [] (n0, u0)) (h : f_law_8 gL xs k18 x3 n0 u0 = some true) : fr_V Y_law K 386 [some (.ref 70), some (.ref 0), some (.ref 52), some (.int x3)] [] (n0, u0) := by
  rw [f_law_8] at h
  refine fr_aload_n (q := 387) F dL_law_386 rfl rfl ?_
  refine fr_aload_n (q := 388) F dL_law_387 rfl rfl ?_
  refine fr_iload_n (q := 389) F dL_law_388 rfl rfl ?_
  refine fr_iconst (q := 390) (v := 1) F dL_law_389 rfl (by decide) ?_
  refine fr_iadd (q := 391) F dL_law_390 rfl ?_
  obtain ⟨hi109, h⟩ := fr_ck_some h
  refine fr_sal (q := 392) F X hi109 dL_law_391 rfl ?_
  refine fr_aload_n (q := 393) F dL_law_392 rfl rfl ?_
  refine fr_iload_n (q := 394) F dL_law_393 rfl rfl ?_
  refine fr_iconst (q := 395) (v := 2) F dL_law_394 rfl (by decide) ?_
  refine fr_iadd (q := 396) F dL_law_395 rfl ?_
  obtain ⟨hi110, h⟩ := fr_ck_some h
  refine fr_sal (q := 397) F X hi110 dL_law_396 rfl ?_
  obtain ⟨r111, hr112, h⟩ := fr_bd_some h
  refine fr_callV (q := 400) (M' := (n0, u0)) (rest := []) (st' := [.int r111]) F dL_law_397 rfl (tX7_feast hr112) mlL_50 msX7_feast ⟨Nat.le_of_ble_eq_true rfl, Nat.le_of_ble_eq_true rfl⟩ (by decide) rfl rfl rfl (Nat.le_of_ble_eq_true rfl) rfl ?_
  refine fr_aload_n (q := 401) F dL_law_400 rfl rfl ?_
  refine fr_aload_n (q := 402) F dL_law_401 rfl rfl ?_
  refine fr_iload_n (q := 403) F dL_law_402 rfl rfl ?_
  refine fr_iconst (q := 404) (v := 1) F dL_law_403 rfl (by decide) ?_
  refine fr_iadd (q := 405) F dL_law_404 rfl ?_
  obtain ⟨hi113, h⟩ := fr_ck_some h
  refine fr_sal (q := 406) F X hi113 dL_law_405 rfl ?_
  refine fr_aload_n (q := 407) F dL_law_406 rfl rfl ?_
  refine fr_iload_n (q := 408) F dL_law_407 rfl rfl ?_
  refine fr_iconst (q := 409) (v := 2) F dL_law_408 rfl (by decide) ?_
  refine fr_iadd (q := 410) F dL_law_409 rfl ?_
  obtain ⟨hi114, h⟩ := fr_ck_some h
  refine fr_sal (q := 411) F X hi114 dL_law_410 rfl ?_
  obtain ⟨r115, hr116, h⟩ := fr_bd_some h
  refine fr_callV (q := 414) (M' := (n0, u0)) (rest := [.int r111]) (st' := [.int r115, .int r111]) F dL_law_411 rfl (tX8_feast hr116) mlL_53 msX8_feast ⟨Nat.le_of_ble_eq_true rfl, Nat.le_of_ble_eq_true rfl⟩ (by decide) rfl rfl rfl (Nat.le_of_ble_eq_true rfl) rfl ?_
  refine fr_icmp_eq (q := 417) (tgt := 1030) F dL_law_414 (by decide) rfl (fun hc117 => ?_) (fun hc117 => ?_)
  · rw [if_pos hc117] at h
    refine fr_iinc (q := 1033) (v := (x3 + (5 : Int32))) F dL_law_1030 rfl rfl rfl (by decide) rfl ?_
    refine fr_goto (tgt := 18) F dL_law_1033 (by decide) ?_
    exact fr_wj (ih _ _ _ h) ⟨rfl, ⟨rfl, ⟨rfl, ⟨rfl, trivial⟩⟩⟩⟩
  · rw [if_neg hc117] at h
    refine fr_iconst (q := 418) (v := 0) F dL_law_417 rfl (by decide) ?_
    cases h
set_option maxRecDepth 20000 in
theorem t_law_9 {K : fr_K} {gL : Nat} {xs : Nat → Int32} {k18 : Int32 → fr_N → fr_N → Option Bool} {x3 : Int32} {n0 u0 : fr_N} (F : fr_F Y_law K) (X : fr_X K gL xs) (E : fr_E K) (ih : ∀ (x3 : Int32) (n0 u0 : fr_N), k18 x3 n0 u0 = some true → fr_V Y_law K 18 [some (.ref 70), some (.ref 0), some (.ref 52), some (.int x3)] [] (n0, u0)) (h : f_law_9 gL xs k18 x3 n0 u0 = some true) : fr_V Y_law K 419 [some (.ref 70), some (.ref 0), some (.ref 52), some (.int x3)] [] (n0, u0) := by
  rw [f_law_9] at h
  refine fr_aload_n (q := 420) F dL_law_419 rfl rfl ?_
  refine fr_aload_n (q := 421) F dL_law_420 rfl rfl ?_
  refine fr_iload_n (q := 422) F dL_law_421 rfl rfl ?_
  refine fr_iconst (q := 423) (v := 1) F dL_law_422 rfl (by decide) ?_
  refine fr_iadd (q := 424) F dL_law_423 rfl ?_
  obtain ⟨hi118, h⟩ := fr_ck_some h
  refine fr_sal (q := 425) F X hi118 dL_law_424 rfl ?_
  refine fr_aload_n (q := 426) F dL_law_425 rfl rfl ?_
  refine fr_iload_n (q := 427) F dL_law_426 rfl rfl ?_
  refine fr_iconst (q := 428) (v := 2) F dL_law_427 rfl (by decide) ?_
  refine fr_iadd (q := 429) F dL_law_428 rfl ?_
  obtain ⟨hi119, h⟩ := fr_ck_some h
  refine fr_sal (q := 430) F X hi119 dL_law_429 rfl ?_
  obtain ⟨r120, n122, hr121, h⟩ := fr_bd2_some h
  refine fr_callV (q := 433) (M' := (n122, u0)) (rest := []) (st' := [.int r120]) F dL_law_430 rfl (tX7_year hr121) mlL_54 msX7_year ⟨Nat.le_of_ble_eq_true rfl, Nat.le_of_ble_eq_true rfl⟩ (by decide) rfl rfl rfl (Nat.le_of_ble_eq_true rfl) rfl ?_
  refine fr_aload_n (q := 434) F dL_law_433 rfl rfl ?_
  refine fr_aload_n (q := 435) F dL_law_434 rfl rfl ?_
  refine fr_iload_n (q := 436) F dL_law_435 rfl rfl ?_
  refine fr_iconst (q := 437) (v := 1) F dL_law_436 rfl (by decide) ?_
  refine fr_iadd (q := 438) F dL_law_437 rfl ?_
  obtain ⟨hi123, h⟩ := fr_ck_some h
  refine fr_sal (q := 439) F X hi123 dL_law_438 rfl ?_
  refine fr_aload_n (q := 440) F dL_law_439 rfl rfl ?_
  refine fr_iload_n (q := 441) F dL_law_440 rfl rfl ?_
  refine fr_iconst (q := 442) (v := 2) F dL_law_441 rfl (by decide) ?_
  refine fr_iadd (q := 443) F dL_law_442 rfl ?_
  obtain ⟨hi124, h⟩ := fr_ck_some h
  refine fr_sal (q := 444) F X hi124 dL_law_443 rfl ?_
  obtain ⟨r125, n127, hr126, h⟩ := fr_bd2_some h
  refine fr_callV (q := 447) (M' := (n122, n127)) (rest := [.int r120]) (st' := [.int r125, .int r120]) F dL_law_444 rfl (tX8_year hr126) mlL_57 msX8_year ⟨Nat.le_of_ble_eq_true rfl, Nat.le_of_ble_eq_true rfl⟩ (by decide) rfl rfl rfl (Nat.le_of_ble_eq_true rfl) rfl ?_
  refine fr_icmp_eq (q := 450) (tgt := 1030) F dL_law_447 (by decide) rfl (fun hc128 => ?_) (fun hc128 => ?_)
  · rw [if_pos hc128] at h
    refine fr_iinc (q := 1033) (v := (x3 + (5 : Int32))) F dL_law_1030 rfl rfl rfl (by decide) rfl ?_
    refine fr_goto (tgt := 18) F dL_law_1033 (by decide) ?_
    exact fr_wj (ih _ _ _ h) ⟨rfl, ⟨rfl, ⟨rfl, ⟨rfl, trivial⟩⟩⟩⟩
  · rw [if_neg hc128] at h
    refine fr_iconst (q := 451) (v := 0) F dL_law_450 rfl (by decide) ?_
    cases h
set_option maxRecDepth 20000 in
theorem t_law_10 {K : fr_K} {gL : Nat} {xs : Nat → Int32} {k18 : Int32 → fr_N → fr_N → Option Bool} {x3 : Int32} {n0 u0 : fr_N} (F : fr_F Y_law K) (X : fr_X K gL xs) (E : fr_E K) (ih : ∀ (x3 : Int32) (n0 u0 : fr_N), k18 x3 n0 u0 = some true → fr_V Y_law K 18 [some (.ref 70), some (.ref 0), some (.ref 52), some (.int x3)] [] (n0, u0)) (h : f_law_10 gL xs k18 x3 n0 u0 = some true) : fr_V Y_law K 452 [some (.ref 70), some (.ref 0), some (.ref 52), some (.int x3)] [] (n0, u0) := by
  rw [f_law_10] at h
  refine fr_aload_n (q := 453) F dL_law_452 rfl rfl ?_
  refine fr_aload_n (q := 454) F dL_law_453 rfl rfl ?_
  refine fr_iload_n (q := 455) F dL_law_454 rfl rfl ?_
  refine fr_iconst (q := 456) (v := 1) F dL_law_455 rfl (by decide) ?_
  refine fr_iadd (q := 457) F dL_law_456 rfl ?_
  obtain ⟨hi129, h⟩ := fr_ck_some h
  refine fr_sal (q := 458) F X hi129 dL_law_457 rfl ?_
  refine fr_aload_n (q := 459) F dL_law_458 rfl rfl ?_
  refine fr_iload_n (q := 460) F dL_law_459 rfl rfl ?_
  refine fr_iconst (q := 461) (v := 2) F dL_law_460 rfl (by decide) ?_
  refine fr_iadd (q := 462) F dL_law_461 rfl ?_
  obtain ⟨hi130, h⟩ := fr_ck_some h
  refine fr_sal (q := 463) F X hi130 dL_law_462 rfl ?_
  refine fr_aload_n (q := 464) F dL_law_463 rfl rfl ?_
  refine fr_iload_n (q := 465) F dL_law_464 rfl rfl ?_
  refine fr_iconst (q := 466) (v := 3) F dL_law_465 rfl (by decide) ?_
  refine fr_iadd (q := 467) F dL_law_466 rfl ?_
  obtain ⟨hi131, h⟩ := fr_ck_some h
  refine fr_sal (q := 468) F X hi131 dL_law_467 rfl ?_
  obtain ⟨r132, n134, hr133, h⟩ := fr_bd2_some h
  refine fr_callV (q := 471) (M' := (n134, u0)) (rest := []) (st' := [.int r132]) F dL_law_468 rfl (tX7_day hr133) mlL_58 msX7_day ⟨Nat.le_of_ble_eq_true rfl, Nat.le_of_ble_eq_true rfl⟩ (by decide) rfl rfl rfl (Nat.le_of_ble_eq_true rfl) rfl ?_
  refine fr_aload_n (q := 472) F dL_law_471 rfl rfl ?_
  refine fr_aload_n (q := 473) F dL_law_472 rfl rfl ?_
  refine fr_iload_n (q := 474) F dL_law_473 rfl rfl ?_
  refine fr_iconst (q := 475) (v := 1) F dL_law_474 rfl (by decide) ?_
  refine fr_iadd (q := 476) F dL_law_475 rfl ?_
  obtain ⟨hi135, h⟩ := fr_ck_some h
  refine fr_sal (q := 477) F X hi135 dL_law_476 rfl ?_
  refine fr_aload_n (q := 478) F dL_law_477 rfl rfl ?_
  refine fr_iload_n (q := 479) F dL_law_478 rfl rfl ?_
  refine fr_iconst (q := 480) (v := 2) F dL_law_479 rfl (by decide) ?_
  refine fr_iadd (q := 481) F dL_law_480 rfl ?_
  obtain ⟨hi136, h⟩ := fr_ck_some h
  refine fr_sal (q := 482) F X hi136 dL_law_481 rfl ?_
  refine fr_aload_n (q := 483) F dL_law_482 rfl rfl ?_
  refine fr_iload_n (q := 484) F dL_law_483 rfl rfl ?_
  refine fr_iconst (q := 485) (v := 3) F dL_law_484 rfl (by decide) ?_
  refine fr_iadd (q := 486) F dL_law_485 rfl ?_
  obtain ⟨hi137, h⟩ := fr_ck_some h
  refine fr_sal (q := 487) F X hi137 dL_law_486 rfl ?_
  obtain ⟨r138, n140, hr139, h⟩ := fr_bd2_some h
  refine fr_callV (q := 490) (M' := (n134, n140)) (rest := [.int r132]) (st' := [.int r138, .int r132]) F dL_law_487 rfl (tX8_day hr139) mlL_61 msX8_day ⟨Nat.le_of_ble_eq_true rfl, Nat.le_of_ble_eq_true rfl⟩ (by decide) rfl rfl rfl (Nat.le_of_ble_eq_true rfl) rfl ?_
  refine fr_icmp_eq (q := 493) (tgt := 1030) F dL_law_490 (by decide) rfl (fun hc141 => ?_) (fun hc141 => ?_)
  · rw [if_pos hc141] at h
    refine fr_iinc (q := 1033) (v := (x3 + (5 : Int32))) F dL_law_1030 rfl rfl rfl (by decide) rfl ?_
    refine fr_goto (tgt := 18) F dL_law_1033 (by decide) ?_
    exact fr_wj (ih _ _ _ h) ⟨rfl, ⟨rfl, ⟨rfl, ⟨rfl, trivial⟩⟩⟩⟩
  · rw [if_neg hc141] at h
    refine fr_iconst (q := 494) (v := 0) F dL_law_493 rfl (by decide) ?_
    cases h
set_option maxRecDepth 20000 in
theorem t_law_11 {K : fr_K} {gL : Nat} {xs : Nat → Int32} {k18 : Int32 → fr_N → fr_N → Option Bool} {x3 : Int32} {n0 u0 : fr_N} (F : fr_F Y_law K) (X : fr_X K gL xs) (E : fr_E K) (ih : ∀ (x3 : Int32) (n0 u0 : fr_N), k18 x3 n0 u0 = some true → fr_V Y_law K 18 [some (.ref 70), some (.ref 0), some (.ref 52), some (.int x3)] [] (n0, u0)) (h : f_law_11 gL xs k18 x3 n0 u0 = some true) : fr_V Y_law K 495 [some (.ref 70), some (.ref 0), some (.ref 52), some (.int x3)] [] (n0, u0) := by
  rw [f_law_11] at h
  refine fr_aload_n (q := 496) F dL_law_495 rfl rfl ?_
  refine fr_aload_n (q := 497) F dL_law_496 rfl rfl ?_
  refine fr_iload_n (q := 498) F dL_law_497 rfl rfl ?_
  refine fr_iconst (q := 499) (v := 1) F dL_law_498 rfl (by decide) ?_
  refine fr_iadd (q := 500) F dL_law_499 rfl ?_
  obtain ⟨hi142, h⟩ := fr_ck_some h
  refine fr_sal (q := 501) F X hi142 dL_law_500 rfl ?_
  refine fr_aload_n (q := 502) F dL_law_501 rfl rfl ?_
  refine fr_iload_n (q := 503) F dL_law_502 rfl rfl ?_
  refine fr_iconst (q := 504) (v := 2) F dL_law_503 rfl (by decide) ?_
  refine fr_iadd (q := 505) F dL_law_504 rfl ?_
  obtain ⟨hi143, h⟩ := fr_ck_some h
  refine fr_sal (q := 506) F X hi143 dL_law_505 rfl ?_
  refine fr_aload_n (q := 507) F dL_law_506 rfl rfl ?_
  refine fr_iload_n (q := 508) F dL_law_507 rfl rfl ?_
  refine fr_iconst (q := 509) (v := 3) F dL_law_508 rfl (by decide) ?_
  refine fr_iadd (q := 510) F dL_law_509 rfl ?_
  obtain ⟨hi144, h⟩ := fr_ck_some h
  refine fr_sal (q := 511) F X hi144 dL_law_510 rfl ?_
  obtain ⟨r145, n147, hr146, h⟩ := fr_bd2_some h
  refine fr_callV (q := 514) (M' := (n147, u0)) (rest := []) (st' := [.int r145]) F dL_law_511 rfl (tX7_held hr146) mlL_62 msX7_held ⟨Nat.le_of_ble_eq_true rfl, Nat.le_of_ble_eq_true rfl⟩ (by decide) rfl rfl rfl (Nat.le_of_ble_eq_true rfl) rfl ?_
  refine fr_aload_n (q := 515) F dL_law_514 rfl rfl ?_
  refine fr_aload_n (q := 516) F dL_law_515 rfl rfl ?_
  refine fr_iload_n (q := 517) F dL_law_516 rfl rfl ?_
  refine fr_iconst (q := 518) (v := 1) F dL_law_517 rfl (by decide) ?_
  refine fr_iadd (q := 519) F dL_law_518 rfl ?_
  obtain ⟨hi148, h⟩ := fr_ck_some h
  refine fr_sal (q := 520) F X hi148 dL_law_519 rfl ?_
  refine fr_aload_n (q := 521) F dL_law_520 rfl rfl ?_
  refine fr_iload_n (q := 522) F dL_law_521 rfl rfl ?_
  refine fr_iconst (q := 523) (v := 2) F dL_law_522 rfl (by decide) ?_
  refine fr_iadd (q := 524) F dL_law_523 rfl ?_
  obtain ⟨hi149, h⟩ := fr_ck_some h
  refine fr_sal (q := 525) F X hi149 dL_law_524 rfl ?_
  refine fr_aload_n (q := 526) F dL_law_525 rfl rfl ?_
  refine fr_iload_n (q := 527) F dL_law_526 rfl rfl ?_
  refine fr_iconst (q := 528) (v := 3) F dL_law_527 rfl (by decide) ?_
  refine fr_iadd (q := 529) F dL_law_528 rfl ?_
  obtain ⟨hi150, h⟩ := fr_ck_some h
  refine fr_sal (q := 530) F X hi150 dL_law_529 rfl ?_
  obtain ⟨r151, n153, hr152, h⟩ := fr_bd2_some h
  refine fr_callV (q := 533) (M' := (n147, n153)) (rest := [.int r145]) (st' := [.int r151, .int r145]) F dL_law_530 rfl (tX8_held hr152) mlL_65 msX8_held ⟨Nat.le_of_ble_eq_true rfl, Nat.le_of_ble_eq_true rfl⟩ (by decide) rfl rfl rfl (Nat.le_of_ble_eq_true rfl) rfl ?_
  refine fr_icmp_eq (q := 536) (tgt := 1030) F dL_law_533 (by decide) rfl (fun hc154 => ?_) (fun hc154 => ?_)
  · rw [if_pos hc154] at h
    refine fr_iinc (q := 1033) (v := (x3 + (5 : Int32))) F dL_law_1030 rfl rfl rfl (by decide) rfl ?_
    refine fr_goto (tgt := 18) F dL_law_1033 (by decide) ?_
    exact fr_wj (ih _ _ _ h) ⟨rfl, ⟨rfl, ⟨rfl, ⟨rfl, trivial⟩⟩⟩⟩
  · rw [if_neg hc154] at h
    refine fr_iconst (q := 537) (v := 0) F dL_law_536 rfl (by decide) ?_
    cases h
set_option maxRecDepth 20000 in
theorem t_law_12 {K : fr_K} {gL : Nat} {xs : Nat → Int32} {k18 : Int32 → fr_N → fr_N → Option Bool} {x3 : Int32} {n0 u0 : fr_N} (F : fr_F Y_law K) (X : fr_X K gL xs) (E : fr_E K) (ih : ∀ (x3 : Int32) (n0 u0 : fr_N), k18 x3 n0 u0 = some true → fr_V Y_law K 18 [some (.ref 70), some (.ref 0), some (.ref 52), some (.int x3)] [] (n0, u0)) (h : f_law_12 gL xs k18 x3 n0 u0 = some true) : fr_V Y_law K 538 [some (.ref 70), some (.ref 0), some (.ref 52), some (.int x3)] [] (n0, u0) := by
  rw [f_law_12] at h
  refine fr_aload_n (q := 539) F dL_law_538 rfl rfl ?_
  refine fr_aload_n (q := 540) F dL_law_539 rfl rfl ?_
  refine fr_iload_n (q := 541) F dL_law_540 rfl rfl ?_
  refine fr_iconst (q := 542) (v := 1) F dL_law_541 rfl (by decide) ?_
  refine fr_iadd (q := 543) F dL_law_542 rfl ?_
  obtain ⟨hi155, h⟩ := fr_ck_some h
  refine fr_sal (q := 544) F X hi155 dL_law_543 rfl ?_
  refine fr_aload_n (q := 545) F dL_law_544 rfl rfl ?_
  refine fr_iload_n (q := 546) F dL_law_545 rfl rfl ?_
  refine fr_iconst (q := 547) (v := 2) F dL_law_546 rfl (by decide) ?_
  refine fr_iadd (q := 548) F dL_law_547 rfl ?_
  obtain ⟨hi156, h⟩ := fr_ck_some h
  refine fr_sal (q := 549) F X hi156 dL_law_548 rfl ?_
  refine fr_aload_n (q := 550) F dL_law_549 rfl rfl ?_
  refine fr_iload_n (q := 551) F dL_law_550 rfl rfl ?_
  refine fr_iconst (q := 552) (v := 3) F dL_law_551 rfl (by decide) ?_
  refine fr_iadd (q := 553) F dL_law_552 rfl ?_
  obtain ⟨hi157, h⟩ := fr_ck_some h
  refine fr_sal (q := 554) F X hi157 dL_law_553 rfl ?_
  obtain ⟨r158, n160, hr159, h⟩ := fr_bd2_some h
  refine fr_callV (q := 557) (M' := (n160, u0)) (rest := []) (st' := [.int r158]) F dL_law_554 rfl (tX7_psalm hr159) mlL_66 msX7_psalm ⟨Nat.le_of_ble_eq_true rfl, Nat.le_of_ble_eq_true rfl⟩ (by decide) rfl rfl rfl (Nat.le_of_ble_eq_true rfl) rfl ?_
  refine fr_aload_n (q := 558) F dL_law_557 rfl rfl ?_
  refine fr_aload_n (q := 559) F dL_law_558 rfl rfl ?_
  refine fr_iload_n (q := 560) F dL_law_559 rfl rfl ?_
  refine fr_iconst (q := 561) (v := 1) F dL_law_560 rfl (by decide) ?_
  refine fr_iadd (q := 562) F dL_law_561 rfl ?_
  obtain ⟨hi161, h⟩ := fr_ck_some h
  refine fr_sal (q := 563) F X hi161 dL_law_562 rfl ?_
  refine fr_aload_n (q := 564) F dL_law_563 rfl rfl ?_
  refine fr_iload_n (q := 565) F dL_law_564 rfl rfl ?_
  refine fr_iconst (q := 566) (v := 2) F dL_law_565 rfl (by decide) ?_
  refine fr_iadd (q := 567) F dL_law_566 rfl ?_
  obtain ⟨hi162, h⟩ := fr_ck_some h
  refine fr_sal (q := 568) F X hi162 dL_law_567 rfl ?_
  refine fr_aload_n (q := 569) F dL_law_568 rfl rfl ?_
  refine fr_iload_n (q := 570) F dL_law_569 rfl rfl ?_
  refine fr_iconst (q := 571) (v := 3) F dL_law_570 rfl (by decide) ?_
  refine fr_iadd (q := 572) F dL_law_571 rfl ?_
  obtain ⟨hi163, h⟩ := fr_ck_some h
  refine fr_sal (q := 573) F X hi163 dL_law_572 rfl ?_
  obtain ⟨r164, n166, hr165, h⟩ := fr_bd2_some h
  refine fr_callV (q := 576) (M' := (n160, n166)) (rest := [.int r158]) (st' := [.int r164, .int r158]) F dL_law_573 rfl (tX8_psalm hr165) mlL_69 msX8_psalm ⟨Nat.le_of_ble_eq_true rfl, Nat.le_of_ble_eq_true rfl⟩ (by decide) rfl rfl rfl (Nat.le_of_ble_eq_true rfl) rfl ?_
  refine fr_icmp_eq (q := 579) (tgt := 1030) F dL_law_576 (by decide) rfl (fun hc167 => ?_) (fun hc167 => ?_)
  · rw [if_pos hc167] at h
    refine fr_iinc (q := 1033) (v := (x3 + (5 : Int32))) F dL_law_1030 rfl rfl rfl (by decide) rfl ?_
    refine fr_goto (tgt := 18) F dL_law_1033 (by decide) ?_
    exact fr_wj (ih _ _ _ h) ⟨rfl, ⟨rfl, ⟨rfl, ⟨rfl, trivial⟩⟩⟩⟩
  · rw [if_neg hc167] at h
    refine fr_iconst (q := 580) (v := 0) F dL_law_579 rfl (by decide) ?_
    cases h
set_option maxRecDepth 20000 in
theorem t_law_13 {K : fr_K} {gL : Nat} {xs : Nat → Int32} {k18 : Int32 → fr_N → fr_N → Option Bool} {x3 : Int32} {n0 u0 : fr_N} (F : fr_F Y_law K) (X : fr_X K gL xs) (E : fr_E K) (ih : ∀ (x3 : Int32) (n0 u0 : fr_N), k18 x3 n0 u0 = some true → fr_V Y_law K 18 [some (.ref 70), some (.ref 0), some (.ref 52), some (.int x3)] [] (n0, u0)) (h : f_law_13 gL xs k18 x3 n0 u0 = some true) : fr_V Y_law K 581 [some (.ref 70), some (.ref 0), some (.ref 52), some (.int x3)] [] (n0, u0) := by
  rw [f_law_13] at h
  refine fr_aload_n (q := 582) F dL_law_581 rfl rfl ?_
  refine fr_aload_n (q := 583) F dL_law_582 rfl rfl ?_
  refine fr_iload_n (q := 584) F dL_law_583 rfl rfl ?_
  refine fr_iconst (q := 585) (v := 1) F dL_law_584 rfl (by decide) ?_
  refine fr_iadd (q := 586) F dL_law_585 rfl ?_
  obtain ⟨hi168, h⟩ := fr_ck_some h
  refine fr_sal (q := 587) F X hi168 dL_law_586 rfl ?_
  refine fr_aload_n (q := 588) F dL_law_587 rfl rfl ?_
  refine fr_iload_n (q := 589) F dL_law_588 rfl rfl ?_
  refine fr_iconst (q := 590) (v := 2) F dL_law_589 rfl (by decide) ?_
  refine fr_iadd (q := 591) F dL_law_590 rfl ?_
  obtain ⟨hi169, h⟩ := fr_ck_some h
  refine fr_sal (q := 592) F X hi169 dL_law_591 rfl ?_
  refine fr_aload_n (q := 593) F dL_law_592 rfl rfl ?_
  refine fr_iload_n (q := 594) F dL_law_593 rfl rfl ?_
  refine fr_iconst (q := 595) (v := 3) F dL_law_594 rfl (by decide) ?_
  refine fr_iadd (q := 596) F dL_law_595 rfl ?_
  obtain ⟨hi170, h⟩ := fr_ck_some h
  refine fr_sal (q := 597) F X hi170 dL_law_596 rfl ?_
  obtain ⟨r171, n173, hr172, h⟩ := fr_bd2_some h
  refine fr_callV (q := 600) (M' := (n173, u0)) (rest := []) (st' := [.int r171]) F dL_law_597 rfl (tX7_read hr172) mlL_70 msX7_read ⟨Nat.le_of_ble_eq_true rfl, Nat.le_of_ble_eq_true rfl⟩ (by decide) rfl rfl rfl (Nat.le_of_ble_eq_true rfl) rfl ?_
  refine fr_aload_n (q := 601) F dL_law_600 rfl rfl ?_
  refine fr_aload_n (q := 602) F dL_law_601 rfl rfl ?_
  refine fr_iload_n (q := 603) F dL_law_602 rfl rfl ?_
  refine fr_iconst (q := 604) (v := 1) F dL_law_603 rfl (by decide) ?_
  refine fr_iadd (q := 605) F dL_law_604 rfl ?_
  obtain ⟨hi174, h⟩ := fr_ck_some h
  refine fr_sal (q := 606) F X hi174 dL_law_605 rfl ?_
  refine fr_aload_n (q := 607) F dL_law_606 rfl rfl ?_
  refine fr_iload_n (q := 608) F dL_law_607 rfl rfl ?_
  refine fr_iconst (q := 609) (v := 2) F dL_law_608 rfl (by decide) ?_
  refine fr_iadd (q := 610) F dL_law_609 rfl ?_
  obtain ⟨hi175, h⟩ := fr_ck_some h
  refine fr_sal (q := 611) F X hi175 dL_law_610 rfl ?_
  refine fr_aload_n (q := 612) F dL_law_611 rfl rfl ?_
  refine fr_iload_n (q := 613) F dL_law_612 rfl rfl ?_
  refine fr_iconst (q := 614) (v := 3) F dL_law_613 rfl (by decide) ?_
  refine fr_iadd (q := 615) F dL_law_614 rfl ?_
  obtain ⟨hi176, h⟩ := fr_ck_some h
  refine fr_sal (q := 616) F X hi176 dL_law_615 rfl ?_
  obtain ⟨r177, n179, hr178, h⟩ := fr_bd2_some h
  refine fr_callV (q := 619) (M' := (n173, n179)) (rest := [.int r171]) (st' := [.int r177, .int r171]) F dL_law_616 rfl (tX8_read hr178) mlL_73 msX8_read ⟨Nat.le_of_ble_eq_true rfl, Nat.le_of_ble_eq_true rfl⟩ (by decide) rfl rfl rfl (Nat.le_of_ble_eq_true rfl) rfl ?_
  refine fr_icmp_eq (q := 622) (tgt := 1030) F dL_law_619 (by decide) rfl (fun hc180 => ?_) (fun hc180 => ?_)
  · rw [if_pos hc180] at h
    refine fr_iinc (q := 1033) (v := (x3 + (5 : Int32))) F dL_law_1030 rfl rfl rfl (by decide) rfl ?_
    refine fr_goto (tgt := 18) F dL_law_1033 (by decide) ?_
    exact fr_wj (ih _ _ _ h) ⟨rfl, ⟨rfl, ⟨rfl, ⟨rfl, trivial⟩⟩⟩⟩
  · rw [if_neg hc180] at h
    refine fr_iconst (q := 623) (v := 0) F dL_law_622 rfl (by decide) ?_
    cases h
set_option maxRecDepth 20000 in
theorem t_law_14 {K : fr_K} {gL : Nat} {xs : Nat → Int32} {k18 : Int32 → fr_N → fr_N → Option Bool} {x3 : Int32} {n0 u0 : fr_N} (F : fr_F Y_law K) (X : fr_X K gL xs) (E : fr_E K) (ih : ∀ (x3 : Int32) (n0 u0 : fr_N), k18 x3 n0 u0 = some true → fr_V Y_law K 18 [some (.ref 70), some (.ref 0), some (.ref 52), some (.int x3)] [] (n0, u0)) (h : f_law_14 gL xs k18 x3 n0 u0 = some true) : fr_V Y_law K 624 [some (.ref 70), some (.ref 0), some (.ref 52), some (.int x3)] [] (n0, u0) := by
  rw [f_law_14] at h
  refine fr_aload_n (q := 625) F dL_law_624 rfl rfl ?_
  refine fr_aload_n (q := 626) F dL_law_625 rfl rfl ?_
  refine fr_iload_n (q := 627) F dL_law_626 rfl rfl ?_
  refine fr_iconst (q := 628) (v := 1) F dL_law_627 rfl (by decide) ?_
  refine fr_iadd (q := 629) F dL_law_628 rfl ?_
  obtain ⟨hi181, h⟩ := fr_ck_some h
  refine fr_sal (q := 630) F X hi181 dL_law_629 rfl ?_
  refine fr_aload_n (q := 631) F dL_law_630 rfl rfl ?_
  refine fr_iload_n (q := 632) F dL_law_631 rfl rfl ?_
  refine fr_iconst (q := 633) (v := 2) F dL_law_632 rfl (by decide) ?_
  refine fr_iadd (q := 634) F dL_law_633 rfl ?_
  obtain ⟨hi182, h⟩ := fr_ck_some h
  refine fr_sal (q := 635) F X hi182 dL_law_634 rfl ?_
  refine fr_aload_n (q := 636) F dL_law_635 rfl rfl ?_
  refine fr_iload_n (q := 637) F dL_law_636 rfl rfl ?_
  refine fr_iconst (q := 638) (v := 3) F dL_law_637 rfl (by decide) ?_
  refine fr_iadd (q := 639) F dL_law_638 rfl ?_
  obtain ⟨hi183, h⟩ := fr_ck_some h
  refine fr_sal (q := 640) F X hi183 dL_law_639 rfl ?_
  obtain ⟨r184, n186, hr185, h⟩ := fr_bd2_some h
  refine fr_callV (q := 643) (M' := (n186, u0)) (rest := []) (st' := [.int r184]) F dL_law_640 rfl (tX7_sings hr185) mlL_74 msX7_sings ⟨Nat.le_of_ble_eq_true rfl, Nat.le_of_ble_eq_true rfl⟩ (by decide) rfl rfl rfl (Nat.le_of_ble_eq_true rfl) rfl ?_
  refine fr_aload_n (q := 644) F dL_law_643 rfl rfl ?_
  refine fr_aload_n (q := 645) F dL_law_644 rfl rfl ?_
  refine fr_iload_n (q := 646) F dL_law_645 rfl rfl ?_
  refine fr_iconst (q := 647) (v := 1) F dL_law_646 rfl (by decide) ?_
  refine fr_iadd (q := 648) F dL_law_647 rfl ?_
  obtain ⟨hi187, h⟩ := fr_ck_some h
  refine fr_sal (q := 649) F X hi187 dL_law_648 rfl ?_
  refine fr_aload_n (q := 650) F dL_law_649 rfl rfl ?_
  refine fr_iload_n (q := 651) F dL_law_650 rfl rfl ?_
  refine fr_iconst (q := 652) (v := 2) F dL_law_651 rfl (by decide) ?_
  refine fr_iadd (q := 653) F dL_law_652 rfl ?_
  obtain ⟨hi188, h⟩ := fr_ck_some h
  refine fr_sal (q := 654) F X hi188 dL_law_653 rfl ?_
  refine fr_aload_n (q := 655) F dL_law_654 rfl rfl ?_
  refine fr_iload_n (q := 656) F dL_law_655 rfl rfl ?_
  refine fr_iconst (q := 657) (v := 3) F dL_law_656 rfl (by decide) ?_
  refine fr_iadd (q := 658) F dL_law_657 rfl ?_
  obtain ⟨hi189, h⟩ := fr_ck_some h
  refine fr_sal (q := 659) F X hi189 dL_law_658 rfl ?_
  obtain ⟨r190, n192, hr191, h⟩ := fr_bd2_some h
  refine fr_callV (q := 662) (M' := (n186, n192)) (rest := [.int r184]) (st' := [.int r190, .int r184]) F dL_law_659 rfl (tX8_sings hr191) mlL_77 msX8_sings ⟨Nat.le_of_ble_eq_true rfl, Nat.le_of_ble_eq_true rfl⟩ (by decide) rfl rfl rfl (Nat.le_of_ble_eq_true rfl) rfl ?_
  refine fr_icmp_eq (q := 665) (tgt := 1030) F dL_law_662 (by decide) rfl (fun hc193 => ?_) (fun hc193 => ?_)
  · rw [if_pos hc193] at h
    refine fr_iinc (q := 1033) (v := (x3 + (5 : Int32))) F dL_law_1030 rfl rfl rfl (by decide) rfl ?_
    refine fr_goto (tgt := 18) F dL_law_1033 (by decide) ?_
    exact fr_wj (ih _ _ _ h) ⟨rfl, ⟨rfl, ⟨rfl, ⟨rfl, trivial⟩⟩⟩⟩
  · rw [if_neg hc193] at h
    refine fr_iconst (q := 666) (v := 0) F dL_law_665 rfl (by decide) ?_
    cases h
set_option maxRecDepth 20000 in
theorem t_law_15 {K : fr_K} {gL : Nat} {xs : Nat → Int32} {k18 : Int32 → fr_N → fr_N → Option Bool} {x3 : Int32} {n0 u0 : fr_N} (F : fr_F Y_law K) (X : fr_X K gL xs) (E : fr_E K) (ih : ∀ (x3 : Int32) (n0 u0 : fr_N), k18 x3 n0 u0 = some true → fr_V Y_law K 18 [some (.ref 70), some (.ref 0), some (.ref 52), some (.int x3)] [] (n0, u0)) (h : f_law_15 gL xs k18 x3 n0 u0 = some true) : fr_V Y_law K 667 [some (.ref 70), some (.ref 0), some (.ref 52), some (.int x3)] [] (n0, u0) := by
  rw [f_law_15] at h
  refine fr_aload_n (q := 668) F dL_law_667 rfl rfl ?_
  refine fr_aload_n (q := 669) F dL_law_668 rfl rfl ?_
  refine fr_iload_n (q := 670) F dL_law_669 rfl rfl ?_
  refine fr_iconst (q := 671) (v := 1) F dL_law_670 rfl (by decide) ?_
  refine fr_iadd (q := 672) F dL_law_671 rfl ?_
  obtain ⟨hi194, h⟩ := fr_ck_some h
  refine fr_sal (q := 673) F X hi194 dL_law_672 rfl ?_
  refine fr_aload_n (q := 674) F dL_law_673 rfl rfl ?_
  refine fr_iload_n (q := 675) F dL_law_674 rfl rfl ?_
  refine fr_iconst (q := 676) (v := 2) F dL_law_675 rfl (by decide) ?_
  refine fr_iadd (q := 677) F dL_law_676 rfl ?_
  obtain ⟨hi195, h⟩ := fr_ck_some h
  refine fr_sal (q := 678) F X hi195 dL_law_677 rfl ?_
  refine fr_aload_n (q := 679) F dL_law_678 rfl rfl ?_
  refine fr_iload_n (q := 680) F dL_law_679 rfl rfl ?_
  refine fr_iconst (q := 681) (v := 3) F dL_law_680 rfl (by decide) ?_
  refine fr_iadd (q := 682) F dL_law_681 rfl ?_
  obtain ⟨hi196, h⟩ := fr_ck_some h
  refine fr_sal (q := 683) F X hi196 dL_law_682 rfl ?_
  obtain ⟨r197, n199, hr198, h⟩ := fr_bd2_some h
  refine fr_callV (q := 686) (M' := (n199, u0)) (rest := []) (st' := [.int r197]) F dL_law_683 rfl (tX7_duties hr198) mlL_78 msX7_duties ⟨Nat.le_of_ble_eq_true rfl, Nat.le_of_ble_eq_true rfl⟩ (by decide) rfl rfl rfl (Nat.le_of_ble_eq_true rfl) rfl ?_
  refine fr_aload_n (q := 687) F dL_law_686 rfl rfl ?_
  refine fr_aload_n (q := 688) F dL_law_687 rfl rfl ?_
  refine fr_iload_n (q := 689) F dL_law_688 rfl rfl ?_
  refine fr_iconst (q := 690) (v := 1) F dL_law_689 rfl (by decide) ?_
  refine fr_iadd (q := 691) F dL_law_690 rfl ?_
  obtain ⟨hi200, h⟩ := fr_ck_some h
  refine fr_sal (q := 692) F X hi200 dL_law_691 rfl ?_
  refine fr_aload_n (q := 693) F dL_law_692 rfl rfl ?_
  refine fr_iload_n (q := 694) F dL_law_693 rfl rfl ?_
  refine fr_iconst (q := 695) (v := 2) F dL_law_694 rfl (by decide) ?_
  refine fr_iadd (q := 696) F dL_law_695 rfl ?_
  obtain ⟨hi201, h⟩ := fr_ck_some h
  refine fr_sal (q := 697) F X hi201 dL_law_696 rfl ?_
  refine fr_aload_n (q := 698) F dL_law_697 rfl rfl ?_
  refine fr_iload_n (q := 699) F dL_law_698 rfl rfl ?_
  refine fr_iconst (q := 700) (v := 3) F dL_law_699 rfl (by decide) ?_
  refine fr_iadd (q := 701) F dL_law_700 rfl ?_
  obtain ⟨hi202, h⟩ := fr_ck_some h
  refine fr_sal (q := 702) F X hi202 dL_law_701 rfl ?_
  obtain ⟨r203, n205, hr204, h⟩ := fr_bd2_some h
  refine fr_callV (q := 705) (M' := (n199, n205)) (rest := [.int r197]) (st' := [.int r203, .int r197]) F dL_law_702 rfl (tX8_duties hr204) mlL_81 msX8_duties ⟨Nat.le_of_ble_eq_true rfl, Nat.le_of_ble_eq_true rfl⟩ (by decide) rfl rfl rfl (Nat.le_of_ble_eq_true rfl) rfl ?_
  refine fr_icmp_eq (q := 708) (tgt := 1030) F dL_law_705 (by decide) rfl (fun hc206 => ?_) (fun hc206 => ?_)
  · rw [if_pos hc206] at h
    refine fr_iinc (q := 1033) (v := (x3 + (5 : Int32))) F dL_law_1030 rfl rfl rfl (by decide) rfl ?_
    refine fr_goto (tgt := 18) F dL_law_1033 (by decide) ?_
    exact fr_wj (ih _ _ _ h) ⟨rfl, ⟨rfl, ⟨rfl, ⟨rfl, trivial⟩⟩⟩⟩
  · rw [if_neg hc206] at h
    refine fr_iconst (q := 709) (v := 0) F dL_law_708 rfl (by decide) ?_
    cases h
set_option maxRecDepth 20000 in
theorem t_law_16 {K : fr_K} {gL : Nat} {xs : Nat → Int32} {k18 : Int32 → fr_N → fr_N → Option Bool} {x3 : Int32} {n0 u0 : fr_N} (F : fr_F Y_law K) (X : fr_X K gL xs) (E : fr_E K) (ih : ∀ (x3 : Int32) (n0 u0 : fr_N), k18 x3 n0 u0 = some true → fr_V Y_law K 18 [some (.ref 70), some (.ref 0), some (.ref 52), some (.int x3)] [] (n0, u0)) (h : f_law_16 gL xs k18 x3 n0 u0 = some true) : fr_V Y_law K 710 [some (.ref 70), some (.ref 0), some (.ref 52), some (.int x3)] [] (n0, u0) := by
  rw [f_law_16] at h
  refine fr_aload_n (q := 711) F dL_law_710 rfl rfl ?_
  refine fr_aload_n (q := 712) F dL_law_711 rfl rfl ?_
  refine fr_iload_n (q := 713) F dL_law_712 rfl rfl ?_
  refine fr_iconst (q := 714) (v := 1) F dL_law_713 rfl (by decide) ?_
  refine fr_iadd (q := 715) F dL_law_714 rfl ?_
  obtain ⟨hi207, h⟩ := fr_ck_some h
  refine fr_sal (q := 716) F X hi207 dL_law_715 rfl ?_
  obtain ⟨r208, n210, hr209, h⟩ := fr_bd2_some h
  refine fr_callV (q := 719) (M' := (n210, u0)) (rest := []) (st' := [.int r208]) F dL_law_716 rfl (tX7_fair hr209) mlL_82 msX7_fair ⟨Nat.le_of_ble_eq_true rfl, Nat.le_of_ble_eq_true rfl⟩ (by decide) rfl rfl rfl (Nat.le_of_ble_eq_true rfl) rfl ?_
  refine fr_aload_n (q := 720) F dL_law_719 rfl rfl ?_
  refine fr_aload_n (q := 721) F dL_law_720 rfl rfl ?_
  refine fr_iload_n (q := 722) F dL_law_721 rfl rfl ?_
  refine fr_iconst (q := 723) (v := 1) F dL_law_722 rfl (by decide) ?_
  refine fr_iadd (q := 724) F dL_law_723 rfl ?_
  obtain ⟨hi211, h⟩ := fr_ck_some h
  refine fr_sal (q := 725) F X hi211 dL_law_724 rfl ?_
  obtain ⟨r212, n214, hr213, h⟩ := fr_bd2_some h
  refine fr_callV (q := 728) (M' := (n210, n214)) (rest := [.int r208]) (st' := [.int r212, .int r208]) F dL_law_725 rfl (tX8_fair hr213) mlL_85 msX8_fair ⟨Nat.le_of_ble_eq_true rfl, Nat.le_of_ble_eq_true rfl⟩ (by decide) rfl rfl rfl (Nat.le_of_ble_eq_true rfl) rfl ?_
  refine fr_icmp_eq (q := 731) (tgt := 1030) F dL_law_728 (by decide) rfl (fun hc215 => ?_) (fun hc215 => ?_)
  · rw [if_pos hc215] at h
    refine fr_iinc (q := 1033) (v := (x3 + (5 : Int32))) F dL_law_1030 rfl rfl rfl (by decide) rfl ?_
    refine fr_goto (tgt := 18) F dL_law_1033 (by decide) ?_
    exact fr_wj (ih _ _ _ h) ⟨rfl, ⟨rfl, ⟨rfl, ⟨rfl, trivial⟩⟩⟩⟩
  · rw [if_neg hc215] at h
    refine fr_iconst (q := 732) (v := 0) F dL_law_731 rfl (by decide) ?_
    cases h
set_option maxRecDepth 20000 in
theorem t_law_17 {K : fr_K} {gL : Nat} {xs : Nat → Int32} {k18 : Int32 → fr_N → fr_N → Option Bool} {x3 : Int32} {n0 u0 : fr_N} (F : fr_F Y_law K) (X : fr_X K gL xs) (E : fr_E K) (ih : ∀ (x3 : Int32) (n0 u0 : fr_N), k18 x3 n0 u0 = some true → fr_V Y_law K 18 [some (.ref 70), some (.ref 0), some (.ref 52), some (.int x3)] [] (n0, u0)) (h : f_law_17 gL xs k18 x3 n0 u0 = some true) : fr_V Y_law K 733 [some (.ref 70), some (.ref 0), some (.ref 52), some (.int x3)] [] (n0, u0) := by
  rw [f_law_17] at h
  refine fr_aload_n (q := 734) F dL_law_733 rfl rfl ?_
  refine fr_aload_n (q := 735) F dL_law_734 rfl rfl ?_
  refine fr_iload_n (q := 736) F dL_law_735 rfl rfl ?_
  refine fr_iconst (q := 737) (v := 1) F dL_law_736 rfl (by decide) ?_
  refine fr_iadd (q := 738) F dL_law_737 rfl ?_
  obtain ⟨hi216, h⟩ := fr_ck_some h
  refine fr_sal (q := 739) F X hi216 dL_law_738 rfl ?_
  refine fr_aload_n (q := 740) F dL_law_739 rfl rfl ?_
  refine fr_iload_n (q := 741) F dL_law_740 rfl rfl ?_
  refine fr_iconst (q := 742) (v := 2) F dL_law_741 rfl (by decide) ?_
  refine fr_iadd (q := 743) F dL_law_742 rfl ?_
  obtain ⟨hi217, h⟩ := fr_ck_some h
  refine fr_sal (q := 744) F X hi217 dL_law_743 rfl ?_
  refine fr_aload_n (q := 745) F dL_law_744 rfl rfl ?_
  refine fr_iload_n (q := 746) F dL_law_745 rfl rfl ?_
  refine fr_iconst (q := 747) (v := 3) F dL_law_746 rfl (by decide) ?_
  refine fr_iadd (q := 748) F dL_law_747 rfl ?_
  obtain ⟨hi218, h⟩ := fr_ck_some h
  refine fr_sal (q := 749) F X hi218 dL_law_748 rfl ?_
  obtain ⟨r219, n221, hr220, h⟩ := fr_bd2_some h
  refine fr_callV (q := 752) (M' := (n221, u0)) (rest := []) (st' := [.int r219]) F dL_law_749 rfl (tX7_meet hr220) mlL_86 msX7_meet ⟨Nat.le_of_ble_eq_true rfl, Nat.le_of_ble_eq_true rfl⟩ (by decide) rfl rfl rfl (Nat.le_of_ble_eq_true rfl) rfl ?_
  refine fr_aload_n (q := 753) F dL_law_752 rfl rfl ?_
  refine fr_aload_n (q := 754) F dL_law_753 rfl rfl ?_
  refine fr_iload_n (q := 755) F dL_law_754 rfl rfl ?_
  refine fr_iconst (q := 756) (v := 1) F dL_law_755 rfl (by decide) ?_
  refine fr_iadd (q := 757) F dL_law_756 rfl ?_
  obtain ⟨hi222, h⟩ := fr_ck_some h
  refine fr_sal (q := 758) F X hi222 dL_law_757 rfl ?_
  refine fr_aload_n (q := 759) F dL_law_758 rfl rfl ?_
  refine fr_iload_n (q := 760) F dL_law_759 rfl rfl ?_
  refine fr_iconst (q := 761) (v := 2) F dL_law_760 rfl (by decide) ?_
  refine fr_iadd (q := 762) F dL_law_761 rfl ?_
  obtain ⟨hi223, h⟩ := fr_ck_some h
  refine fr_sal (q := 763) F X hi223 dL_law_762 rfl ?_
  refine fr_aload_n (q := 764) F dL_law_763 rfl rfl ?_
  refine fr_iload_n (q := 765) F dL_law_764 rfl rfl ?_
  refine fr_iconst (q := 766) (v := 3) F dL_law_765 rfl (by decide) ?_
  refine fr_iadd (q := 767) F dL_law_766 rfl ?_
  obtain ⟨hi224, h⟩ := fr_ck_some h
  refine fr_sal (q := 768) F X hi224 dL_law_767 rfl ?_
  obtain ⟨r225, n227, hr226, h⟩ := fr_bd2_some h
  refine fr_callV (q := 771) (M' := (n221, n227)) (rest := [.int r219]) (st' := [.int r225, .int r219]) F dL_law_768 rfl (tX8_meet hr226) mlL_89 msX8_meet ⟨Nat.le_of_ble_eq_true rfl, Nat.le_of_ble_eq_true rfl⟩ (by decide) rfl rfl rfl (Nat.le_of_ble_eq_true rfl) rfl ?_
  refine fr_icmp_eq (q := 774) (tgt := 1030) F dL_law_771 (by decide) rfl (fun hc228 => ?_) (fun hc228 => ?_)
  · rw [if_pos hc228] at h
    refine fr_iinc (q := 1033) (v := (x3 + (5 : Int32))) F dL_law_1030 rfl rfl rfl (by decide) rfl ?_
    refine fr_goto (tgt := 18) F dL_law_1033 (by decide) ?_
    exact fr_wj (ih _ _ _ h) ⟨rfl, ⟨rfl, ⟨rfl, ⟨rfl, trivial⟩⟩⟩⟩
  · rw [if_neg hc228] at h
    refine fr_iconst (q := 775) (v := 0) F dL_law_774 rfl (by decide) ?_
    cases h
set_option maxRecDepth 20000 in
theorem t_law_18 {K : fr_K} {gL : Nat} {xs : Nat → Int32} {k18 : Int32 → fr_N → fr_N → Option Bool} {x3 : Int32} {n0 u0 : fr_N} (F : fr_F Y_law K) (X : fr_X K gL xs) (E : fr_E K) (ih : ∀ (x3 : Int32) (n0 u0 : fr_N), k18 x3 n0 u0 = some true → fr_V Y_law K 18 [some (.ref 70), some (.ref 0), some (.ref 52), some (.int x3)] [] (n0, u0)) (h : f_law_18 gL xs k18 x3 n0 u0 = some true) : fr_V Y_law K 776 [some (.ref 70), some (.ref 0), some (.ref 52), some (.int x3)] [] (n0, u0) := by
  rw [f_law_18] at h
  refine fr_aload_n (q := 777) F dL_law_776 rfl rfl ?_
  refine fr_aload_n (q := 778) F dL_law_777 rfl rfl ?_
  refine fr_iload_n (q := 779) F dL_law_778 rfl rfl ?_
  refine fr_iconst (q := 780) (v := 1) F dL_law_779 rfl (by decide) ?_
  refine fr_iadd (q := 781) F dL_law_780 rfl ?_
  obtain ⟨hi229, h⟩ := fr_ck_some h
  refine fr_sal (q := 782) F X hi229 dL_law_781 rfl ?_
  refine fr_aload_n (q := 783) F dL_law_782 rfl rfl ?_
  refine fr_iload_n (q := 784) F dL_law_783 rfl rfl ?_
  refine fr_iconst (q := 785) (v := 2) F dL_law_784 rfl (by decide) ?_
  refine fr_iadd (q := 786) F dL_law_785 rfl ?_
  obtain ⟨hi230, h⟩ := fr_ck_some h
  refine fr_sal (q := 787) F X hi230 dL_law_786 rfl ?_
  refine fr_aload_n (q := 788) F dL_law_787 rfl rfl ?_
  refine fr_iload_n (q := 789) F dL_law_788 rfl rfl ?_
  refine fr_iconst (q := 790) (v := 3) F dL_law_789 rfl (by decide) ?_
  refine fr_iadd (q := 791) F dL_law_790 rfl ?_
  obtain ⟨hi231, h⟩ := fr_ck_some h
  refine fr_sal (q := 792) F X hi231 dL_law_791 rfl ?_
  obtain ⟨r232, n234, hr233, h⟩ := fr_bd2_some h
  refine fr_callV (q := 795) (M' := (n234, u0)) (rest := []) (st' := [.int r232]) F dL_law_792 rfl (tX7_springs hr233) mlL_90 msX7_springs ⟨Nat.le_of_ble_eq_true rfl, Nat.le_of_ble_eq_true rfl⟩ (by decide) rfl rfl rfl (Nat.le_of_ble_eq_true rfl) rfl ?_
  refine fr_aload_n (q := 796) F dL_law_795 rfl rfl ?_
  refine fr_aload_n (q := 797) F dL_law_796 rfl rfl ?_
  refine fr_iload_n (q := 798) F dL_law_797 rfl rfl ?_
  refine fr_iconst (q := 799) (v := 1) F dL_law_798 rfl (by decide) ?_
  refine fr_iadd (q := 800) F dL_law_799 rfl ?_
  obtain ⟨hi235, h⟩ := fr_ck_some h
  refine fr_sal (q := 801) F X hi235 dL_law_800 rfl ?_
  refine fr_aload_n (q := 802) F dL_law_801 rfl rfl ?_
  refine fr_iload_n (q := 803) F dL_law_802 rfl rfl ?_
  refine fr_iconst (q := 804) (v := 2) F dL_law_803 rfl (by decide) ?_
  refine fr_iadd (q := 805) F dL_law_804 rfl ?_
  obtain ⟨hi236, h⟩ := fr_ck_some h
  refine fr_sal (q := 806) F X hi236 dL_law_805 rfl ?_
  refine fr_aload_n (q := 807) F dL_law_806 rfl rfl ?_
  refine fr_iload_n (q := 808) F dL_law_807 rfl rfl ?_
  refine fr_iconst (q := 809) (v := 3) F dL_law_808 rfl (by decide) ?_
  refine fr_iadd (q := 810) F dL_law_809 rfl ?_
  obtain ⟨hi237, h⟩ := fr_ck_some h
  refine fr_sal (q := 811) F X hi237 dL_law_810 rfl ?_
  obtain ⟨r238, n240, hr239, h⟩ := fr_bd2_some h
  refine fr_callV (q := 814) (M' := (n234, n240)) (rest := [.int r232]) (st' := [.int r238, .int r232]) F dL_law_811 rfl (tX8_springs hr239) mlL_93 msX8_springs ⟨Nat.le_of_ble_eq_true rfl, Nat.le_of_ble_eq_true rfl⟩ (by decide) rfl rfl rfl (Nat.le_of_ble_eq_true rfl) rfl ?_
  refine fr_icmp_eq (q := 817) (tgt := 1030) F dL_law_814 (by decide) rfl (fun hc241 => ?_) (fun hc241 => ?_)
  · rw [if_pos hc241] at h
    refine fr_iinc (q := 1033) (v := (x3 + (5 : Int32))) F dL_law_1030 rfl rfl rfl (by decide) rfl ?_
    refine fr_goto (tgt := 18) F dL_law_1033 (by decide) ?_
    exact fr_wj (ih _ _ _ h) ⟨rfl, ⟨rfl, ⟨rfl, ⟨rfl, trivial⟩⟩⟩⟩
  · rw [if_neg hc241] at h
    refine fr_iconst (q := 818) (v := 0) F dL_law_817 rfl (by decide) ?_
    cases h
set_option maxRecDepth 20000 in
theorem t_law_19 {K : fr_K} {gL : Nat} {xs : Nat → Int32} {k18 : Int32 → fr_N → fr_N → Option Bool} {x3 : Int32} {n0 u0 : fr_N} (F : fr_F Y_law K) (X : fr_X K gL xs) (E : fr_E K) (ih : ∀ (x3 : Int32) (n0 u0 : fr_N), k18 x3 n0 u0 = some true → fr_V Y_law K 18 [some (.ref 70), some (.ref 0), some (.ref 52), some (.int x3)] [] (n0, u0)) (h : f_law_19 gL xs k18 x3 n0 u0 = some true) : fr_V Y_law K 819 [some (.ref 70), some (.ref 0), some (.ref 52), some (.int x3)] [] (n0, u0) := by
  rw [f_law_19] at h
  refine fr_aload_n (q := 820) F dL_law_819 rfl rfl ?_
  refine fr_aload_n (q := 821) F dL_law_820 rfl rfl ?_
  refine fr_iload_n (q := 822) F dL_law_821 rfl rfl ?_
  refine fr_iconst (q := 823) (v := 1) F dL_law_822 rfl (by decide) ?_
  refine fr_iadd (q := 824) F dL_law_823 rfl ?_
  obtain ⟨hi242, h⟩ := fr_ck_some h
  refine fr_sal (q := 825) F X hi242 dL_law_824 rfl ?_
  refine fr_aload_n (q := 826) F dL_law_825 rfl rfl ?_
  refine fr_iload_n (q := 827) F dL_law_826 rfl rfl ?_
  refine fr_iconst (q := 828) (v := 2) F dL_law_827 rfl (by decide) ?_
  refine fr_iadd (q := 829) F dL_law_828 rfl ?_
  obtain ⟨hi243, h⟩ := fr_ck_some h
  refine fr_sal (q := 830) F X hi243 dL_law_829 rfl ?_
  refine fr_aload_n (q := 831) F dL_law_830 rfl rfl ?_
  refine fr_iload_n (q := 832) F dL_law_831 rfl rfl ?_
  refine fr_iconst (q := 833) (v := 3) F dL_law_832 rfl (by decide) ?_
  refine fr_iadd (q := 834) F dL_law_833 rfl ?_
  obtain ⟨hi244, h⟩ := fr_ck_some h
  refine fr_sal (q := 835) F X hi244 dL_law_834 rfl ?_
  refine fr_aload_n (q := 836) F dL_law_835 rfl rfl ?_
  refine fr_iload_n (q := 837) F dL_law_836 rfl rfl ?_
  refine fr_iconst (q := 838) (v := 4) F dL_law_837 rfl (by decide) ?_
  refine fr_iadd (q := 839) F dL_law_838 rfl ?_
  obtain ⟨hi245, h⟩ := fr_ck_some h
  refine fr_sal (q := 840) F X hi245 dL_law_839 rfl ?_
  obtain ⟨r246, n248, hr247, h⟩ := fr_bd2_some h
  refine fr_callV (q := 843) (M' := (n248, u0)) (rest := []) (st' := [.int r246]) F dL_law_840 rfl (tX7_often hr247) mlL_94 msX7_often ⟨Nat.le_of_ble_eq_true rfl, Nat.le_of_ble_eq_true rfl⟩ (by decide) rfl rfl rfl (Nat.le_of_ble_eq_true rfl) rfl ?_
  refine fr_aload_n (q := 844) F dL_law_843 rfl rfl ?_
  refine fr_aload_n (q := 845) F dL_law_844 rfl rfl ?_
  refine fr_iload_n (q := 846) F dL_law_845 rfl rfl ?_
  refine fr_iconst (q := 847) (v := 1) F dL_law_846 rfl (by decide) ?_
  refine fr_iadd (q := 848) F dL_law_847 rfl ?_
  obtain ⟨hi249, h⟩ := fr_ck_some h
  refine fr_sal (q := 849) F X hi249 dL_law_848 rfl ?_
  refine fr_aload_n (q := 850) F dL_law_849 rfl rfl ?_
  refine fr_iload_n (q := 851) F dL_law_850 rfl rfl ?_
  refine fr_iconst (q := 852) (v := 2) F dL_law_851 rfl (by decide) ?_
  refine fr_iadd (q := 853) F dL_law_852 rfl ?_
  obtain ⟨hi250, h⟩ := fr_ck_some h
  refine fr_sal (q := 854) F X hi250 dL_law_853 rfl ?_
  refine fr_aload_n (q := 855) F dL_law_854 rfl rfl ?_
  refine fr_iload_n (q := 856) F dL_law_855 rfl rfl ?_
  refine fr_iconst (q := 857) (v := 3) F dL_law_856 rfl (by decide) ?_
  refine fr_iadd (q := 858) F dL_law_857 rfl ?_
  obtain ⟨hi251, h⟩ := fr_ck_some h
  refine fr_sal (q := 859) F X hi251 dL_law_858 rfl ?_
  refine fr_aload_n (q := 860) F dL_law_859 rfl rfl ?_
  refine fr_iload_n (q := 861) F dL_law_860 rfl rfl ?_
  refine fr_iconst (q := 862) (v := 4) F dL_law_861 rfl (by decide) ?_
  refine fr_iadd (q := 863) F dL_law_862 rfl ?_
  obtain ⟨hi252, h⟩ := fr_ck_some h
  refine fr_sal (q := 864) F X hi252 dL_law_863 rfl ?_
  obtain ⟨r253, n255, hr254, h⟩ := fr_bd2_some h
  refine fr_callV (q := 867) (M' := (n248, n255)) (rest := [.int r246]) (st' := [.int r253, .int r246]) F dL_law_864 rfl (tX8_often hr254) mlL_97 msX8_often ⟨Nat.le_of_ble_eq_true rfl, Nat.le_of_ble_eq_true rfl⟩ (by decide) rfl rfl rfl (Nat.le_of_ble_eq_true rfl) rfl ?_
  refine fr_icmp_eq (q := 870) (tgt := 1030) F dL_law_867 (by decide) rfl (fun hc256 => ?_) (fun hc256 => ?_)
  · rw [if_pos hc256] at h
    refine fr_iinc (q := 1033) (v := (x3 + (5 : Int32))) F dL_law_1030 rfl rfl rfl (by decide) rfl ?_
    refine fr_goto (tgt := 18) F dL_law_1033 (by decide) ?_
    exact fr_wj (ih _ _ _ h) ⟨rfl, ⟨rfl, ⟨rfl, ⟨rfl, trivial⟩⟩⟩⟩
  · rw [if_neg hc256] at h
    refine fr_iconst (q := 871) (v := 0) F dL_law_870 rfl (by decide) ?_
    cases h
set_option maxRecDepth 20000 in
theorem t_law_20 {K : fr_K} {gL : Nat} {xs : Nat → Int32} {k18 : Int32 → fr_N → fr_N → Option Bool} {x3 : Int32} {n0 u0 : fr_N} (F : fr_F Y_law K) (X : fr_X K gL xs) (E : fr_E K) (ih : ∀ (x3 : Int32) (n0 u0 : fr_N), k18 x3 n0 u0 = some true → fr_V Y_law K 18 [some (.ref 70), some (.ref 0), some (.ref 52), some (.int x3)] [] (n0, u0)) (h : f_law_20 gL xs k18 x3 n0 u0 = some true) : fr_V Y_law K 872 [some (.ref 70), some (.ref 0), some (.ref 52), some (.int x3)] [] (n0, u0) := by
  rw [f_law_20] at h
  refine fr_aload_n (q := 873) F dL_law_872 rfl rfl ?_
  refine fr_aload_n (q := 874) F dL_law_873 rfl rfl ?_
  refine fr_iload_n (q := 875) F dL_law_874 rfl rfl ?_
  refine fr_iconst (q := 876) (v := 1) F dL_law_875 rfl (by decide) ?_
  refine fr_iadd (q := 877) F dL_law_876 rfl ?_
  obtain ⟨hi257, h⟩ := fr_ck_some h
  refine fr_sal (q := 878) F X hi257 dL_law_877 rfl ?_
  refine fr_aload_n (q := 879) F dL_law_878 rfl rfl ?_
  refine fr_iload_n (q := 880) F dL_law_879 rfl rfl ?_
  refine fr_iconst (q := 881) (v := 2) F dL_law_880 rfl (by decide) ?_
  refine fr_iadd (q := 882) F dL_law_881 rfl ?_
  obtain ⟨hi258, h⟩ := fr_ck_some h
  refine fr_sal (q := 883) F X hi258 dL_law_882 rfl ?_
  obtain ⟨r259, n261, hr260, h⟩ := fr_bd2_some h
  refine fr_callV (q := 886) (M' := (n261, u0)) (rest := []) (st' := [.int r259]) F dL_law_883 rfl (tX7_enough hr260) mlL_98 msX7_enough ⟨Nat.le_of_ble_eq_true rfl, Nat.le_of_ble_eq_true rfl⟩ (by decide) rfl rfl rfl (Nat.le_of_ble_eq_true rfl) rfl ?_
  refine fr_aload_n (q := 887) F dL_law_886 rfl rfl ?_
  refine fr_aload_n (q := 888) F dL_law_887 rfl rfl ?_
  refine fr_iload_n (q := 889) F dL_law_888 rfl rfl ?_
  refine fr_iconst (q := 890) (v := 1) F dL_law_889 rfl (by decide) ?_
  refine fr_iadd (q := 891) F dL_law_890 rfl ?_
  obtain ⟨hi262, h⟩ := fr_ck_some h
  refine fr_sal (q := 892) F X hi262 dL_law_891 rfl ?_
  refine fr_aload_n (q := 893) F dL_law_892 rfl rfl ?_
  refine fr_iload_n (q := 894) F dL_law_893 rfl rfl ?_
  refine fr_iconst (q := 895) (v := 2) F dL_law_894 rfl (by decide) ?_
  refine fr_iadd (q := 896) F dL_law_895 rfl ?_
  obtain ⟨hi263, h⟩ := fr_ck_some h
  refine fr_sal (q := 897) F X hi263 dL_law_896 rfl ?_
  obtain ⟨r264, n266, hr265, h⟩ := fr_bd2_some h
  refine fr_callV (q := 900) (M' := (n261, n266)) (rest := [.int r259]) (st' := [.int r264, .int r259]) F dL_law_897 rfl (tX8_enough hr265) mlL_101 msX8_enough ⟨Nat.le_of_ble_eq_true rfl, Nat.le_of_ble_eq_true rfl⟩ (by decide) rfl rfl rfl (Nat.le_of_ble_eq_true rfl) rfl ?_
  refine fr_icmp_eq (q := 903) (tgt := 1030) F dL_law_900 (by decide) rfl (fun hc267 => ?_) (fun hc267 => ?_)
  · rw [if_pos hc267] at h
    refine fr_iinc (q := 1033) (v := (x3 + (5 : Int32))) F dL_law_1030 rfl rfl rfl (by decide) rfl ?_
    refine fr_goto (tgt := 18) F dL_law_1033 (by decide) ?_
    exact fr_wj (ih _ _ _ h) ⟨rfl, ⟨rfl, ⟨rfl, ⟨rfl, trivial⟩⟩⟩⟩
  · rw [if_neg hc267] at h
    refine fr_iconst (q := 904) (v := 0) F dL_law_903 rfl (by decide) ?_
    cases h
set_option maxRecDepth 20000 in
theorem t_law_21 {K : fr_K} {gL : Nat} {xs : Nat → Int32} {k18 : Int32 → fr_N → fr_N → Option Bool} {x3 : Int32} {n0 u0 : fr_N} (F : fr_F Y_law K) (X : fr_X K gL xs) (E : fr_E K) (ih : ∀ (x3 : Int32) (n0 u0 : fr_N), k18 x3 n0 u0 = some true → fr_V Y_law K 18 [some (.ref 70), some (.ref 0), some (.ref 52), some (.int x3)] [] (n0, u0)) (h : f_law_21 gL xs k18 x3 n0 u0 = some true) : fr_V Y_law K 905 [some (.ref 70), some (.ref 0), some (.ref 52), some (.int x3)] [] (n0, u0) := by
  rw [f_law_21] at h
  refine fr_aload_n (q := 906) F dL_law_905 rfl rfl ?_
  refine fr_aload_n (q := 907) F dL_law_906 rfl rfl ?_
  refine fr_iload_n (q := 908) F dL_law_907 rfl rfl ?_
  refine fr_iconst (q := 909) (v := 1) F dL_law_908 rfl (by decide) ?_
  refine fr_iadd (q := 910) F dL_law_909 rfl ?_
  obtain ⟨hi268, h⟩ := fr_ck_some h
  refine fr_sal (q := 911) F X hi268 dL_law_910 rfl ?_
  obtain ⟨r269, n271, hr270, h⟩ := fr_bd2_some h
  refine fr_callV (q := 914) (M' := (n271, u0)) (rest := []) (st' := [.int r269]) F dL_law_911 rfl (tX7_best hr270) mlL_102 msX7_best ⟨Nat.le_of_ble_eq_true rfl, Nat.le_of_ble_eq_true rfl⟩ (by decide) rfl rfl rfl (Nat.le_of_ble_eq_true rfl) rfl ?_
  refine fr_aload_n (q := 915) F dL_law_914 rfl rfl ?_
  refine fr_aload_n (q := 916) F dL_law_915 rfl rfl ?_
  refine fr_iload_n (q := 917) F dL_law_916 rfl rfl ?_
  refine fr_iconst (q := 918) (v := 1) F dL_law_917 rfl (by decide) ?_
  refine fr_iadd (q := 919) F dL_law_918 rfl ?_
  obtain ⟨hi272, h⟩ := fr_ck_some h
  refine fr_sal (q := 920) F X hi272 dL_law_919 rfl ?_
  obtain ⟨r273, n275, hr274, h⟩ := fr_bd2_some h
  refine fr_callV (q := 923) (M' := (n271, n275)) (rest := [.int r269]) (st' := [.int r273, .int r269]) F dL_law_920 rfl (tX8_best hr274) mlL_105 msX8_best ⟨Nat.le_of_ble_eq_true rfl, Nat.le_of_ble_eq_true rfl⟩ (by decide) rfl rfl rfl (Nat.le_of_ble_eq_true rfl) rfl ?_
  refine fr_icmp_eq (q := 926) (tgt := 1030) F dL_law_923 (by decide) rfl (fun hc276 => ?_) (fun hc276 => ?_)
  · rw [if_pos hc276] at h
    refine fr_iinc (q := 1033) (v := (x3 + (5 : Int32))) F dL_law_1030 rfl rfl rfl (by decide) rfl ?_
    refine fr_goto (tgt := 18) F dL_law_1033 (by decide) ?_
    exact fr_wj (ih _ _ _ h) ⟨rfl, ⟨rfl, ⟨rfl, ⟨rfl, trivial⟩⟩⟩⟩
  · rw [if_neg hc276] at h
    refine fr_iconst (q := 927) (v := 0) F dL_law_926 rfl (by decide) ?_
    cases h
set_option maxRecDepth 20000 in
theorem t_law_22 {K : fr_K} {gL : Nat} {xs : Nat → Int32} {k18 : Int32 → fr_N → fr_N → Option Bool} {x3 : Int32} {n0 u0 : fr_N} (F : fr_F Y_law K) (X : fr_X K gL xs) (E : fr_E K) (ih : ∀ (x3 : Int32) (n0 u0 : fr_N), k18 x3 n0 u0 = some true → fr_V Y_law K 18 [some (.ref 70), some (.ref 0), some (.ref 52), some (.int x3)] [] (n0, u0)) (h : f_law_22 gL xs k18 x3 n0 u0 = some true) : fr_V Y_law K 928 [some (.ref 70), some (.ref 0), some (.ref 52), some (.int x3)] [] (n0, u0) := by
  rw [f_law_22] at h
  refine fr_aload_n (q := 929) F dL_law_928 rfl rfl ?_
  refine fr_aload_n (q := 930) F dL_law_929 rfl rfl ?_
  refine fr_iload_n (q := 931) F dL_law_930 rfl rfl ?_
  refine fr_iconst (q := 932) (v := 1) F dL_law_931 rfl (by decide) ?_
  refine fr_iadd (q := 933) F dL_law_932 rfl ?_
  obtain ⟨hi277, h⟩ := fr_ck_some h
  refine fr_sal (q := 934) F X hi277 dL_law_933 rfl ?_
  refine fr_aload_n (q := 935) F dL_law_934 rfl rfl ?_
  refine fr_iload_n (q := 936) F dL_law_935 rfl rfl ?_
  refine fr_iconst (q := 937) (v := 2) F dL_law_936 rfl (by decide) ?_
  refine fr_iadd (q := 938) F dL_law_937 rfl ?_
  obtain ⟨hi278, h⟩ := fr_ck_some h
  refine fr_sal (q := 939) F X hi278 dL_law_938 rfl ?_
  obtain ⟨r279, n281, hr280, h⟩ := fr_bd2_some h
  refine fr_callV (q := 942) (M' := (n281, u0)) (rest := []) (st' := [.int r279]) F dL_law_939 rfl (tX7_bars hr280) mlL_106 msX7_bars ⟨Nat.le_of_ble_eq_true rfl, Nat.le_of_ble_eq_true rfl⟩ (by decide) rfl rfl rfl (Nat.le_of_ble_eq_true rfl) rfl ?_
  refine fr_aload_n (q := 943) F dL_law_942 rfl rfl ?_
  refine fr_aload_n (q := 944) F dL_law_943 rfl rfl ?_
  refine fr_iload_n (q := 945) F dL_law_944 rfl rfl ?_
  refine fr_iconst (q := 946) (v := 1) F dL_law_945 rfl (by decide) ?_
  refine fr_iadd (q := 947) F dL_law_946 rfl ?_
  obtain ⟨hi282, h⟩ := fr_ck_some h
  refine fr_sal (q := 948) F X hi282 dL_law_947 rfl ?_
  refine fr_aload_n (q := 949) F dL_law_948 rfl rfl ?_
  refine fr_iload_n (q := 950) F dL_law_949 rfl rfl ?_
  refine fr_iconst (q := 951) (v := 2) F dL_law_950 rfl (by decide) ?_
  refine fr_iadd (q := 952) F dL_law_951 rfl ?_
  obtain ⟨hi283, h⟩ := fr_ck_some h
  refine fr_sal (q := 953) F X hi283 dL_law_952 rfl ?_
  obtain ⟨r284, n286, hr285, h⟩ := fr_bd2_some h
  refine fr_callV (q := 956) (M' := (n281, n286)) (rest := [.int r279]) (st' := [.int r284, .int r279]) F dL_law_953 rfl (tX8_bars hr285) mlL_109 msX8_bars ⟨Nat.le_of_ble_eq_true rfl, Nat.le_of_ble_eq_true rfl⟩ (by decide) rfl rfl rfl (Nat.le_of_ble_eq_true rfl) rfl ?_
  refine fr_icmp_eq (q := 959) (tgt := 1030) F dL_law_956 (by decide) rfl (fun hc287 => ?_) (fun hc287 => ?_)
  · rw [if_pos hc287] at h
    refine fr_iinc (q := 1033) (v := (x3 + (5 : Int32))) F dL_law_1030 rfl rfl rfl (by decide) rfl ?_
    refine fr_goto (tgt := 18) F dL_law_1033 (by decide) ?_
    exact fr_wj (ih _ _ _ h) ⟨rfl, ⟨rfl, ⟨rfl, ⟨rfl, trivial⟩⟩⟩⟩
  · rw [if_neg hc287] at h
    refine fr_iconst (q := 960) (v := 0) F dL_law_959 rfl (by decide) ?_
    cases h
set_option maxRecDepth 20000 in
theorem t_law_23 {K : fr_K} {gL : Nat} {xs : Nat → Int32} {k18 : Int32 → fr_N → fr_N → Option Bool} {x3 : Int32} {n0 u0 : fr_N} (F : fr_F Y_law K) (X : fr_X K gL xs) (E : fr_E K) (ih : ∀ (x3 : Int32) (n0 u0 : fr_N), k18 x3 n0 u0 = some true → fr_V Y_law K 18 [some (.ref 70), some (.ref 0), some (.ref 52), some (.int x3)] [] (n0, u0)) (h : f_law_23 gL xs k18 x3 n0 u0 = some true) : fr_V Y_law K 961 [some (.ref 70), some (.ref 0), some (.ref 52), some (.int x3)] [] (n0, u0) := by
  rw [f_law_23] at h
  refine fr_aload_n (q := 962) F dL_law_961 rfl rfl ?_
  refine fr_aload_n (q := 963) F dL_law_962 rfl rfl ?_
  refine fr_iload_n (q := 964) F dL_law_963 rfl rfl ?_
  refine fr_iconst (q := 965) (v := 1) F dL_law_964 rfl (by decide) ?_
  refine fr_iadd (q := 966) F dL_law_965 rfl ?_
  obtain ⟨hi288, h⟩ := fr_ck_some h
  refine fr_sal (q := 967) F X hi288 dL_law_966 rfl ?_
  obtain ⟨r289, n291, hr290, h⟩ := fr_bd2_some h
  refine fr_callV (q := 970) (M' := (n291, u0)) (rest := []) (st' := [.int r289]) F dL_law_967 rfl (tX7_image hr290) mlL_110 msX7_image ⟨Nat.le_of_ble_eq_true rfl, Nat.le_of_ble_eq_true rfl⟩ (by decide) rfl rfl rfl (Nat.le_of_ble_eq_true rfl) rfl ?_
  refine fr_aload_n (q := 971) F dL_law_970 rfl rfl ?_
  refine fr_aload_n (q := 972) F dL_law_971 rfl rfl ?_
  refine fr_iload_n (q := 973) F dL_law_972 rfl rfl ?_
  refine fr_iconst (q := 974) (v := 1) F dL_law_973 rfl (by decide) ?_
  refine fr_iadd (q := 975) F dL_law_974 rfl ?_
  obtain ⟨hi292, h⟩ := fr_ck_some h
  refine fr_sal (q := 976) F X hi292 dL_law_975 rfl ?_
  obtain ⟨r293, n295, hr294, h⟩ := fr_bd2_some h
  refine fr_callV (q := 979) (M' := (n291, n295)) (rest := [.int r289]) (st' := [.int r293, .int r289]) F dL_law_976 rfl (tX8_image hr294) mlL_113 msX8_image ⟨Nat.le_of_ble_eq_true rfl, Nat.le_of_ble_eq_true rfl⟩ (by decide) rfl rfl rfl (Nat.le_of_ble_eq_true rfl) rfl ?_
  refine fr_icmp_eq (q := 982) (tgt := 1030) F dL_law_979 (by decide) rfl (fun hc296 => ?_) (fun hc296 => ?_)
  · rw [if_pos hc296] at h
    refine fr_iinc (q := 1033) (v := (x3 + (5 : Int32))) F dL_law_1030 rfl rfl rfl (by decide) rfl ?_
    refine fr_goto (tgt := 18) F dL_law_1033 (by decide) ?_
    exact fr_wj (ih _ _ _ h) ⟨rfl, ⟨rfl, ⟨rfl, ⟨rfl, trivial⟩⟩⟩⟩
  · rw [if_neg hc296] at h
    refine fr_iconst (q := 983) (v := 0) F dL_law_982 rfl (by decide) ?_
    cases h
set_option maxRecDepth 20000 in
theorem t_law_24 {K : fr_K} {gL : Nat} {xs : Nat → Int32} {k18 : Int32 → fr_N → fr_N → Option Bool} {x3 : Int32} {n0 u0 : fr_N} (F : fr_F Y_law K) (X : fr_X K gL xs) (E : fr_E K) (ih : ∀ (x3 : Int32) (n0 u0 : fr_N), k18 x3 n0 u0 = some true → fr_V Y_law K 18 [some (.ref 70), some (.ref 0), some (.ref 52), some (.int x3)] [] (n0, u0)) (h : f_law_24 gL xs k18 x3 n0 u0 = some true) : fr_V Y_law K 984 [some (.ref 70), some (.ref 0), some (.ref 52), some (.int x3)] [] (n0, u0) := by
  rw [f_law_24] at h
  refine fr_aload_n (q := 985) F dL_law_984 rfl rfl ?_
  refine fr_aload_n (q := 986) F dL_law_985 rfl rfl ?_
  refine fr_iload_n (q := 987) F dL_law_986 rfl rfl ?_
  refine fr_iconst (q := 988) (v := 1) F dL_law_987 rfl (by decide) ?_
  refine fr_iadd (q := 989) F dL_law_988 rfl ?_
  obtain ⟨hi297, h⟩ := fr_ck_some h
  refine fr_sal (q := 990) F X hi297 dL_law_989 rfl ?_
  obtain ⟨r298, n300, hr299, h⟩ := fr_bd2_some h
  refine fr_callV (q := 993) (M' := (n300, u0)) (rest := []) (st' := [.int r298]) F dL_law_990 rfl (tX7_restore hr299) mlL_114 msX7_restore ⟨Nat.le_of_ble_eq_true rfl, Nat.le_of_ble_eq_true rfl⟩ (by decide) rfl rfl rfl (Nat.le_of_ble_eq_true rfl) rfl ?_
  refine fr_aload_n (q := 994) F dL_law_993 rfl rfl ?_
  refine fr_aload_n (q := 995) F dL_law_994 rfl rfl ?_
  refine fr_iload_n (q := 996) F dL_law_995 rfl rfl ?_
  refine fr_iconst (q := 997) (v := 1) F dL_law_996 rfl (by decide) ?_
  refine fr_iadd (q := 998) F dL_law_997 rfl ?_
  obtain ⟨hi301, h⟩ := fr_ck_some h
  refine fr_sal (q := 999) F X hi301 dL_law_998 rfl ?_
  obtain ⟨r302, n304, hr303, h⟩ := fr_bd2_some h
  refine fr_callV (q := 1002) (M' := (n300, n304)) (rest := [.int r298]) (st' := [.int r302, .int r298]) F dL_law_999 rfl (tX8_restore hr303) mlL_117 msX8_restore ⟨Nat.le_of_ble_eq_true rfl, Nat.le_of_ble_eq_true rfl⟩ (by decide) rfl rfl rfl (Nat.le_of_ble_eq_true rfl) rfl ?_
  refine fr_icmp_eq (q := 1005) (tgt := 1030) F dL_law_1002 (by decide) rfl (fun hc305 => ?_) (fun hc305 => ?_)
  · rw [if_pos hc305] at h
    refine fr_iinc (q := 1033) (v := (x3 + (5 : Int32))) F dL_law_1030 rfl rfl rfl (by decide) rfl ?_
    refine fr_goto (tgt := 18) F dL_law_1033 (by decide) ?_
    exact fr_wj (ih _ _ _ h) ⟨rfl, ⟨rfl, ⟨rfl, ⟨rfl, trivial⟩⟩⟩⟩
  · rw [if_neg hc305] at h
    refine fr_iconst (q := 1006) (v := 0) F dL_law_1005 rfl (by decide) ?_
    cases h
set_option maxRecDepth 20000 in
theorem t_law_25 {K : fr_K} {gL : Nat} {xs : Nat → Int32} {k18 : Int32 → fr_N → fr_N → Option Bool} {x3 : Int32} {n0 u0 : fr_N} (F : fr_F Y_law K) (X : fr_X K gL xs) (E : fr_E K) (ih : ∀ (x3 : Int32) (n0 u0 : fr_N), k18 x3 n0 u0 = some true → fr_V Y_law K 18 [some (.ref 70), some (.ref 0), some (.ref 52), some (.int x3)] [] (n0, u0)) (h : f_law_25 gL xs k18 x3 n0 u0 = some true) : fr_V Y_law K 1007 [some (.ref 70), some (.ref 0), some (.ref 52), some (.int x3)] [] (n0, u0) := by
  rw [f_law_25] at h
  refine fr_aload_n (q := 1008) F dL_law_1007 rfl rfl ?_
  refine fr_aload_n (q := 1009) F dL_law_1008 rfl rfl ?_
  refine fr_iload_n (q := 1010) F dL_law_1009 rfl rfl ?_
  refine fr_iconst (q := 1011) (v := 1) F dL_law_1010 rfl (by decide) ?_
  refine fr_iadd (q := 1012) F dL_law_1011 rfl ?_
  obtain ⟨hi306, h⟩ := fr_ck_some h
  refine fr_sal (q := 1013) F X hi306 dL_law_1012 rfl ?_
  obtain ⟨r307, hr308, h⟩ := fr_bd_some h
  refine fr_callV (q := 1016) (M' := (n0, u0)) (rest := []) (st' := [.int r307]) F dL_law_1013 rfl (tX7_count hr308) mlL_118 msX7_count ⟨Nat.le_of_ble_eq_true rfl, Nat.le_of_ble_eq_true rfl⟩ (by decide) rfl rfl rfl (Nat.le_of_ble_eq_true rfl) rfl ?_
  refine fr_aload_n (q := 1017) F dL_law_1016 rfl rfl ?_
  refine fr_aload_n (q := 1018) F dL_law_1017 rfl rfl ?_
  refine fr_iload_n (q := 1019) F dL_law_1018 rfl rfl ?_
  refine fr_iconst (q := 1020) (v := 1) F dL_law_1019 rfl (by decide) ?_
  refine fr_iadd (q := 1021) F dL_law_1020 rfl ?_
  obtain ⟨hi309, h⟩ := fr_ck_some h
  refine fr_sal (q := 1022) F X hi309 dL_law_1021 rfl ?_
  obtain ⟨r310, hr311, h⟩ := fr_bd_some h
  refine fr_callV (q := 1025) (M' := (n0, u0)) (rest := [.int r307]) (st' := [.int r310, .int r307]) F dL_law_1022 rfl (tX8_count hr311) mlL_121 msX8_count ⟨Nat.le_of_ble_eq_true rfl, Nat.le_of_ble_eq_true rfl⟩ (by decide) rfl rfl rfl (Nat.le_of_ble_eq_true rfl) rfl ?_
  refine fr_icmp_eq (q := 1028) (tgt := 1030) F dL_law_1025 (by decide) rfl (fun hc312 => ?_) (fun hc312 => ?_)
  · rw [if_pos hc312] at h
    refine fr_iinc (q := 1033) (v := (x3 + (5 : Int32))) F dL_law_1030 rfl rfl rfl (by decide) rfl ?_
    refine fr_goto (tgt := 18) F dL_law_1033 (by decide) ?_
    exact fr_wj (ih _ _ _ h) ⟨rfl, ⟨rfl, ⟨rfl, ⟨rfl, trivial⟩⟩⟩⟩
  · rw [if_neg hc312] at h
    refine fr_iconst (q := 1029) (v := 0) F dL_law_1028 rfl (by decide) ?_
    cases h
def f_law (gL : Nat) (xs : Nat → Int32) : Nat → Int32 → fr_N → fr_N → Option Bool
  | 0, _, _, _ => none
  | k + 1, x3, n0, u0 => if ((Int32.ofNat gL) - (5 : Int32)) < x3 then some true else fr_ck x3 gL (if ((xs (Int32.toNatClampNeg x3)) &&& (31 : Int32)) = (0 : Int32) then f_law_0 gL xs (f_law gL xs k) x3 n0 u0 else (if ((xs (Int32.toNatClampNeg x3)) &&& (31 : Int32)) = (1 : Int32) then f_law_1 gL xs (f_law gL xs k) x3 n0 u0 else (if ((xs (Int32.toNatClampNeg x3)) &&& (31 : Int32)) = (2 : Int32) then f_law_2 gL xs (f_law gL xs k) x3 n0 u0 else (if ((xs (Int32.toNatClampNeg x3)) &&& (31 : Int32)) = (3 : Int32) then f_law_3 gL xs (f_law gL xs k) x3 n0 u0 else (if ((xs (Int32.toNatClampNeg x3)) &&& (31 : Int32)) = (4 : Int32) then f_law_4 gL xs (f_law gL xs k) x3 n0 u0 else (if ((xs (Int32.toNatClampNeg x3)) &&& (31 : Int32)) = (5 : Int32) then f_law_5 gL xs (f_law gL xs k) x3 n0 u0 else (if ((xs (Int32.toNatClampNeg x3)) &&& (31 : Int32)) = (6 : Int32) then f_law_6 gL xs (f_law gL xs k) x3 n0 u0 else (if ((xs (Int32.toNatClampNeg x3)) &&& (31 : Int32)) = (7 : Int32) then f_law_7 gL xs (f_law gL xs k) x3 n0 u0 else (if ((xs (Int32.toNatClampNeg x3)) &&& (31 : Int32)) = (8 : Int32) then f_law_8 gL xs (f_law gL xs k) x3 n0 u0 else (if ((xs (Int32.toNatClampNeg x3)) &&& (31 : Int32)) = (9 : Int32) then f_law_9 gL xs (f_law gL xs k) x3 n0 u0 else (if ((xs (Int32.toNatClampNeg x3)) &&& (31 : Int32)) = (10 : Int32) then f_law_10 gL xs (f_law gL xs k) x3 n0 u0 else (if ((xs (Int32.toNatClampNeg x3)) &&& (31 : Int32)) = (11 : Int32) then f_law_11 gL xs (f_law gL xs k) x3 n0 u0 else (if ((xs (Int32.toNatClampNeg x3)) &&& (31 : Int32)) = (12 : Int32) then f_law_12 gL xs (f_law gL xs k) x3 n0 u0 else (if ((xs (Int32.toNatClampNeg x3)) &&& (31 : Int32)) = (13 : Int32) then f_law_13 gL xs (f_law gL xs k) x3 n0 u0 else (if ((xs (Int32.toNatClampNeg x3)) &&& (31 : Int32)) = (14 : Int32) then f_law_14 gL xs (f_law gL xs k) x3 n0 u0 else (if ((xs (Int32.toNatClampNeg x3)) &&& (31 : Int32)) = (15 : Int32) then f_law_15 gL xs (f_law gL xs k) x3 n0 u0 else (if ((xs (Int32.toNatClampNeg x3)) &&& (31 : Int32)) = (16 : Int32) then f_law_16 gL xs (f_law gL xs k) x3 n0 u0 else (if ((xs (Int32.toNatClampNeg x3)) &&& (31 : Int32)) = (17 : Int32) then f_law_17 gL xs (f_law gL xs k) x3 n0 u0 else (if ((xs (Int32.toNatClampNeg x3)) &&& (31 : Int32)) = (18 : Int32) then f_law_18 gL xs (f_law gL xs k) x3 n0 u0 else (if ((xs (Int32.toNatClampNeg x3)) &&& (31 : Int32)) = (19 : Int32) then f_law_19 gL xs (f_law gL xs k) x3 n0 u0 else (if ((xs (Int32.toNatClampNeg x3)) &&& (31 : Int32)) = (20 : Int32) then f_law_20 gL xs (f_law gL xs k) x3 n0 u0 else (if ((xs (Int32.toNatClampNeg x3)) &&& (31 : Int32)) = (21 : Int32) then f_law_21 gL xs (f_law gL xs k) x3 n0 u0 else (if ((xs (Int32.toNatClampNeg x3)) &&& (31 : Int32)) = (22 : Int32) then f_law_22 gL xs (f_law gL xs k) x3 n0 u0 else (if ((xs (Int32.toNatClampNeg x3)) &&& (31 : Int32)) = (23 : Int32) then f_law_23 gL xs (f_law gL xs k) x3 n0 u0 else (if ((xs (Int32.toNatClampNeg x3)) &&& (31 : Int32)) = (24 : Int32) then f_law_24 gL xs (f_law gL xs k) x3 n0 u0 else (if ((xs (Int32.toNatClampNeg x3)) &&& (31 : Int32)) = (25 : Int32) then f_law_25 gL xs (f_law gL xs k) x3 n0 u0 else ((f_law gL xs k) (x3 + (5 : Int32)) n0 u0)))))))))))))))))))))))))))
set_option maxRecDepth 20000 in
theorem t_law {K : fr_K} {gL : Nat} {xs : Nat → Int32} (F : fr_F Y_law K) (X : fr_X K gL xs) (E : fr_E K) : ∀ (k : Nat) (x3 : Int32) (n0 u0 : fr_N), f_law gL xs k x3 n0 u0 = some true → fr_V Y_law K 18 [some (.ref 70), some (.ref 0), some (.ref 52), some (.int x3)] [] (n0, u0) := by
  intro k
  induction k with
  | zero =>
    intro x3 n0 u0 h
    rw [f_law] at h
    cases h
  | succ k ih =>
    intro x3 n0 u0 h
    rw [f_law] at h
    refine fr_iload_n (q := 19) F dL_law_18 rfl rfl ?_
    refine fr_aload_n (q := 20) F dL_law_19 rfl rfl ?_
    refine fr_sln (q := 21) F X dL_law_20 rfl ?_
    refine fr_iconst (q := 22) (v := 5) F dL_law_21 rfl (by decide) ?_
    refine fr_isub (q := 23) F dL_law_22 rfl ?_
    refine fr_icmp_gt (q := 26) (tgt := 1036) F dL_law_23 (by decide) rfl (fun hc1 => ?_) (fun hc1 => ?_)
    · rw [if_pos hc1] at h
      refine fr_iconst (q := 1037) (v := 1) F dL_law_1036 rfl (by decide) ?_
      exact fr_lret F E dL_law_1037
    · rw [if_neg hc1] at h
      refine fr_aload_n (q := 27) F dL_law_26 rfl rfl ?_
      refine fr_iload_n (q := 28) F dL_law_27 rfl rfl ?_
      obtain ⟨hi2, h⟩ := fr_ck_some h
      refine fr_sal (q := 29) F X hi2 dL_law_28 rfl ?_
      refine fr_bipush (q := 31) (v := 31) F dL_law_29 rfl (by decide) ?_
      refine fr_iand (q := 32) F dL_law_31 rfl ?_
      by_cases hc3 : ((xs (Int32.toNatClampNeg x3)) &&& (31 : Int32)) = (0 : Int32)
      · rw [if_pos hc3] at h
        refine fr_tswI (k := 0) (off := 120) (tgt := 152) F hc3 dL_law_32 (by decide) (by decide) (by decide) (by decide) ?_
        exact fr_wj (t_law_0 F X E ih h) ⟨rfl, ⟨rfl, ⟨rfl, ⟨rfl, trivial⟩⟩⟩⟩
      · rw [if_neg hc3] at h
        by_cases hc4 : ((xs (Int32.toNatClampNeg x3)) &&& (31 : Int32)) = (1 : Int32)
        · rw [if_pos hc4] at h
          refine fr_tswI (k := 1) (off := 143) (tgt := 175) F hc4 dL_law_32 (by decide) (by decide) (by decide) (by decide) ?_
          exact fr_wj (t_law_1 F X E ih h) ⟨rfl, ⟨rfl, ⟨rfl, ⟨rfl, trivial⟩⟩⟩⟩
        · rw [if_neg hc4] at h
          by_cases hc5 : ((xs (Int32.toNatClampNeg x3)) &&& (31 : Int32)) = (2 : Int32)
          · rw [if_pos hc5] at h
            refine fr_tswI (k := 2) (off := 156) (tgt := 188) F hc5 dL_law_32 (by decide) (by decide) (by decide) (by decide) ?_
            exact fr_wj (t_law_2 F X E ih h) ⟨rfl, ⟨rfl, ⟨rfl, ⟨rfl, trivial⟩⟩⟩⟩
          · rw [if_neg hc5] at h
            by_cases hc6 : ((xs (Int32.toNatClampNeg x3)) &&& (31 : Int32)) = (3 : Int32)
            · rw [if_pos hc6] at h
              refine fr_tswI (k := 3) (off := 169) (tgt := 201) F hc6 dL_law_32 (by decide) (by decide) (by decide) (by decide) ?_
              exact fr_wj (t_law_3 F X E ih h) ⟨rfl, ⟨rfl, ⟨rfl, ⟨rfl, trivial⟩⟩⟩⟩
            · rw [if_neg hc6] at h
              by_cases hc7 : ((xs (Int32.toNatClampNeg x3)) &&& (31 : Int32)) = (4 : Int32)
              · rw [if_pos hc7] at h
                refine fr_tswI (k := 4) (off := 182) (tgt := 214) F hc7 dL_law_32 (by decide) (by decide) (by decide) (by decide) ?_
                exact fr_wj (t_law_4 F X E ih h) ⟨rfl, ⟨rfl, ⟨rfl, ⟨rfl, trivial⟩⟩⟩⟩
              · rw [if_neg hc7] at h
                by_cases hc8 : ((xs (Int32.toNatClampNeg x3)) &&& (31 : Int32)) = (5 : Int32)
                · rw [if_pos hc8] at h
                  refine fr_tswI (k := 5) (off := 225) (tgt := 257) F hc8 dL_law_32 (by decide) (by decide) (by decide) (by decide) ?_
                  exact fr_wj (t_law_5 F X E ih h) ⟨rfl, ⟨rfl, ⟨rfl, ⟨rfl, trivial⟩⟩⟩⟩
                · rw [if_neg hc8] at h
                  by_cases hc9 : ((xs (Int32.toNatClampNeg x3)) &&& (31 : Int32)) = (6 : Int32)
                  · rw [if_pos hc9] at h
                    refine fr_tswI (k := 6) (off := 278) (tgt := 310) F hc9 dL_law_32 (by decide) (by decide) (by decide) (by decide) ?_
                    exact fr_wj (t_law_6 F X E ih h) ⟨rfl, ⟨rfl, ⟨rfl, ⟨rfl, trivial⟩⟩⟩⟩
                  · rw [if_neg hc9] at h
                    by_cases hc10 : ((xs (Int32.toNatClampNeg x3)) &&& (31 : Int32)) = (7 : Int32)
                    · rw [if_pos hc10] at h
                      refine fr_tswI (k := 7) (off := 311) (tgt := 343) F hc10 dL_law_32 (by decide) (by decide) (by decide) (by decide) ?_
                      exact fr_wj (t_law_7 F X E ih h) ⟨rfl, ⟨rfl, ⟨rfl, ⟨rfl, trivial⟩⟩⟩⟩
                    · rw [if_neg hc10] at h
                      by_cases hc11 : ((xs (Int32.toNatClampNeg x3)) &&& (31 : Int32)) = (8 : Int32)
                      · rw [if_pos hc11] at h
                        refine fr_tswI (k := 8) (off := 354) (tgt := 386) F hc11 dL_law_32 (by decide) (by decide) (by decide) (by decide) ?_
                        exact fr_wj (t_law_8 F X E ih h) ⟨rfl, ⟨rfl, ⟨rfl, ⟨rfl, trivial⟩⟩⟩⟩
                      · rw [if_neg hc11] at h
                        by_cases hc12 : ((xs (Int32.toNatClampNeg x3)) &&& (31 : Int32)) = (9 : Int32)
                        · rw [if_pos hc12] at h
                          refine fr_tswI (k := 9) (off := 387) (tgt := 419) F hc12 dL_law_32 (by decide) (by decide) (by decide) (by decide) ?_
                          exact fr_wj (t_law_9 F X E ih h) ⟨rfl, ⟨rfl, ⟨rfl, ⟨rfl, trivial⟩⟩⟩⟩
                        · rw [if_neg hc12] at h
                          by_cases hc13 : ((xs (Int32.toNatClampNeg x3)) &&& (31 : Int32)) = (10 : Int32)
                          · rw [if_pos hc13] at h
                            refine fr_tswI (k := 10) (off := 420) (tgt := 452) F hc13 dL_law_32 (by decide) (by decide) (by decide) (by decide) ?_
                            exact fr_wj (t_law_10 F X E ih h) ⟨rfl, ⟨rfl, ⟨rfl, ⟨rfl, trivial⟩⟩⟩⟩
                          · rw [if_neg hc13] at h
                            by_cases hc14 : ((xs (Int32.toNatClampNeg x3)) &&& (31 : Int32)) = (11 : Int32)
                            · rw [if_pos hc14] at h
                              refine fr_tswI (k := 11) (off := 463) (tgt := 495) F hc14 dL_law_32 (by decide) (by decide) (by decide) (by decide) ?_
                              exact fr_wj (t_law_11 F X E ih h) ⟨rfl, ⟨rfl, ⟨rfl, ⟨rfl, trivial⟩⟩⟩⟩
                            · rw [if_neg hc14] at h
                              by_cases hc15 : ((xs (Int32.toNatClampNeg x3)) &&& (31 : Int32)) = (12 : Int32)
                              · rw [if_pos hc15] at h
                                refine fr_tswI (k := 12) (off := 506) (tgt := 538) F hc15 dL_law_32 (by decide) (by decide) (by decide) (by decide) ?_
                                exact fr_wj (t_law_12 F X E ih h) ⟨rfl, ⟨rfl, ⟨rfl, ⟨rfl, trivial⟩⟩⟩⟩
                              · rw [if_neg hc15] at h
                                by_cases hc16 : ((xs (Int32.toNatClampNeg x3)) &&& (31 : Int32)) = (13 : Int32)
                                · rw [if_pos hc16] at h
                                  refine fr_tswI (k := 13) (off := 549) (tgt := 581) F hc16 dL_law_32 (by decide) (by decide) (by decide) (by decide) ?_
                                  exact fr_wj (t_law_13 F X E ih h) ⟨rfl, ⟨rfl, ⟨rfl, ⟨rfl, trivial⟩⟩⟩⟩
                                · rw [if_neg hc16] at h
                                  by_cases hc17 : ((xs (Int32.toNatClampNeg x3)) &&& (31 : Int32)) = (14 : Int32)
                                  · rw [if_pos hc17] at h
                                    refine fr_tswI (k := 14) (off := 592) (tgt := 624) F hc17 dL_law_32 (by decide) (by decide) (by decide) (by decide) ?_
                                    exact fr_wj (t_law_14 F X E ih h) ⟨rfl, ⟨rfl, ⟨rfl, ⟨rfl, trivial⟩⟩⟩⟩
                                  · rw [if_neg hc17] at h
                                    by_cases hc18 : ((xs (Int32.toNatClampNeg x3)) &&& (31 : Int32)) = (15 : Int32)
                                    · rw [if_pos hc18] at h
                                      refine fr_tswI (k := 15) (off := 635) (tgt := 667) F hc18 dL_law_32 (by decide) (by decide) (by decide) (by decide) ?_
                                      exact fr_wj (t_law_15 F X E ih h) ⟨rfl, ⟨rfl, ⟨rfl, ⟨rfl, trivial⟩⟩⟩⟩
                                    · rw [if_neg hc18] at h
                                      by_cases hc19 : ((xs (Int32.toNatClampNeg x3)) &&& (31 : Int32)) = (16 : Int32)
                                      · rw [if_pos hc19] at h
                                        refine fr_tswI (k := 16) (off := 678) (tgt := 710) F hc19 dL_law_32 (by decide) (by decide) (by decide) (by decide) ?_
                                        exact fr_wj (t_law_16 F X E ih h) ⟨rfl, ⟨rfl, ⟨rfl, ⟨rfl, trivial⟩⟩⟩⟩
                                      · rw [if_neg hc19] at h
                                        by_cases hc20 : ((xs (Int32.toNatClampNeg x3)) &&& (31 : Int32)) = (17 : Int32)
                                        · rw [if_pos hc20] at h
                                          refine fr_tswI (k := 17) (off := 701) (tgt := 733) F hc20 dL_law_32 (by decide) (by decide) (by decide) (by decide) ?_
                                          exact fr_wj (t_law_17 F X E ih h) ⟨rfl, ⟨rfl, ⟨rfl, ⟨rfl, trivial⟩⟩⟩⟩
                                        · rw [if_neg hc20] at h
                                          by_cases hc21 : ((xs (Int32.toNatClampNeg x3)) &&& (31 : Int32)) = (18 : Int32)
                                          · rw [if_pos hc21] at h
                                            refine fr_tswI (k := 18) (off := 744) (tgt := 776) F hc21 dL_law_32 (by decide) (by decide) (by decide) (by decide) ?_
                                            exact fr_wj (t_law_18 F X E ih h) ⟨rfl, ⟨rfl, ⟨rfl, ⟨rfl, trivial⟩⟩⟩⟩
                                          · rw [if_neg hc21] at h
                                            by_cases hc22 : ((xs (Int32.toNatClampNeg x3)) &&& (31 : Int32)) = (19 : Int32)
                                            · rw [if_pos hc22] at h
                                              refine fr_tswI (k := 19) (off := 787) (tgt := 819) F hc22 dL_law_32 (by decide) (by decide) (by decide) (by decide) ?_
                                              exact fr_wj (t_law_19 F X E ih h) ⟨rfl, ⟨rfl, ⟨rfl, ⟨rfl, trivial⟩⟩⟩⟩
                                            · rw [if_neg hc22] at h
                                              by_cases hc23 : ((xs (Int32.toNatClampNeg x3)) &&& (31 : Int32)) = (20 : Int32)
                                              · rw [if_pos hc23] at h
                                                refine fr_tswI (k := 20) (off := 840) (tgt := 872) F hc23 dL_law_32 (by decide) (by decide) (by decide) (by decide) ?_
                                                exact fr_wj (t_law_20 F X E ih h) ⟨rfl, ⟨rfl, ⟨rfl, ⟨rfl, trivial⟩⟩⟩⟩
                                              · rw [if_neg hc23] at h
                                                by_cases hc24 : ((xs (Int32.toNatClampNeg x3)) &&& (31 : Int32)) = (21 : Int32)
                                                · rw [if_pos hc24] at h
                                                  refine fr_tswI (k := 21) (off := 873) (tgt := 905) F hc24 dL_law_32 (by decide) (by decide) (by decide) (by decide) ?_
                                                  exact fr_wj (t_law_21 F X E ih h) ⟨rfl, ⟨rfl, ⟨rfl, ⟨rfl, trivial⟩⟩⟩⟩
                                                · rw [if_neg hc24] at h
                                                  by_cases hc25 : ((xs (Int32.toNatClampNeg x3)) &&& (31 : Int32)) = (22 : Int32)
                                                  · rw [if_pos hc25] at h
                                                    refine fr_tswI (k := 22) (off := 896) (tgt := 928) F hc25 dL_law_32 (by decide) (by decide) (by decide) (by decide) ?_
                                                    exact fr_wj (t_law_22 F X E ih h) ⟨rfl, ⟨rfl, ⟨rfl, ⟨rfl, trivial⟩⟩⟩⟩
                                                  · rw [if_neg hc25] at h
                                                    by_cases hc26 : ((xs (Int32.toNatClampNeg x3)) &&& (31 : Int32)) = (23 : Int32)
                                                    · rw [if_pos hc26] at h
                                                      refine fr_tswI (k := 23) (off := 929) (tgt := 961) F hc26 dL_law_32 (by decide) (by decide) (by decide) (by decide) ?_
                                                      exact fr_wj (t_law_23 F X E ih h) ⟨rfl, ⟨rfl, ⟨rfl, ⟨rfl, trivial⟩⟩⟩⟩
                                                    · rw [if_neg hc26] at h
                                                      by_cases hc27 : ((xs (Int32.toNatClampNeg x3)) &&& (31 : Int32)) = (24 : Int32)
                                                      · rw [if_pos hc27] at h
                                                        refine fr_tswI (k := 24) (off := 952) (tgt := 984) F hc27 dL_law_32 (by decide) (by decide) (by decide) (by decide) ?_
                                                        exact fr_wj (t_law_24 F X E ih h) ⟨rfl, ⟨rfl, ⟨rfl, ⟨rfl, trivial⟩⟩⟩⟩
                                                      · rw [if_neg hc27] at h
                                                        by_cases hc28 : ((xs (Int32.toNatClampNeg x3)) &&& (31 : Int32)) = (25 : Int32)
                                                        · rw [if_pos hc28] at h
                                                          refine fr_tswI (k := 25) (off := 975) (tgt := 1007) F hc28 dL_law_32 (by decide) (by decide) (by decide) (by decide) ?_
                                                          exact fr_wj (t_law_25 F X E ih h) ⟨rfl, ⟨rfl, ⟨rfl, ⟨rfl, trivial⟩⟩⟩⟩
                                                        · rw [if_neg hc28] at h
                                                          refine fr_tswO (tgt := 1030) F dL_law_32 (fr_out (n := 25) (by decide) (fun k hk => match k, hk with | 0, _ => hc3 | 1, _ => hc4 | 2, _ => hc5 | 3, _ => hc6 | 4, _ => hc7 | 5, _ => hc8 | 6, _ => hc9 | 7, _ => hc10 | 8, _ => hc11 | 9, _ => hc12 | 10, _ => hc13 | 11, _ => hc14 | 12, _ => hc15 | 13, _ => hc16 | 14, _ => hc17 | 15, _ => hc18 | 16, _ => hc19 | 17, _ => hc20 | 18, _ => hc21 | 19, _ => hc22 | 20, _ => hc23 | 21, _ => hc24 | 22, _ => hc25 | 23, _ => hc26 | 24, _ => hc27 | 25, _ => hc28 | k + 26, hk => absurd hk (by omega))) (by decide) ?_
                                                          refine fr_iinc (q := 1033) (v := (x3 + (5 : Int32))) F dL_law_1030 rfl rfl rfl (by decide) rfl ?_
                                                          refine fr_goto (tgt := 18) F dL_law_1033 (by decide) ?_
                                                          exact fr_wj (ih _ _ _ h) ⟨rfl, ⟨rfl, ⟨rfl, ⟨rfl, trivial⟩⟩⟩⟩
