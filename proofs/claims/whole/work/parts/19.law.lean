/-! the law from its loop on, as a partial function; the constructors, run out -/
def Law_p1787 (N : Nat) (xs : List Int32) (kb18 : St → St → Int32 → Option (Int32 × St × St)) (c : St) (r : St) (x3 : Int32) : Option (Int32 × St × St) :=
  kb18 c r (x3 + 4)
def Law_p248 (N : Nat) (xs : List Int32) (kb18 : St → St → Int32 → Option (Int32 × St × St)) (c : St) (r : St) (x3 : Int32) : Option (Int32 × St × St) :=
  (ld xs (x3 + 1)).bind fun y4 => (ld xs (x3 + 2)).bind fun y5 => (C_leg N c y4 y5).bind fun p6 => (ld xs (x3 + 1)).bind fun y7 => (ld xs (x3 + 2)).bind fun y8 => (R_leg N r y7 y8).bind fun p9 => (if p6.1 = p9.1 then Law_p1787 N xs kb18 p6.2 p9.2 x3 else some (0, p6.2, p9.2))
def Law_p281 (N : Nat) (xs : List Int32) (kb18 : St → St → Int32 → Option (Int32 × St × St)) (c : St) (r : St) (x3 : Int32) : Option (Int32 × St × St) :=
  (ld xs (x3 + 1)).bind fun y12 => (ld xs (x3 + 2)).bind fun y13 => (C_warm N c y12 y13).bind fun p14 => (ld xs (x3 + 1)).bind fun y15 => (ld xs (x3 + 2)).bind fun y16 => (R_warm N r y15 y16).bind fun p17 => (if p14.1 = p17.1 then Law_p1787 N xs kb18 p14.2 p17.2 x3 else some (0, p14.2, p17.2))
def Law_p314 (N : Nat) (xs : List Int32) (kb18 : St → St → Int32 → Option (Int32 × St × St)) (c : St) (r : St) (x3 : Int32) : Option (Int32 × St × St) :=
  (ld xs (x3 + 1)).bind fun y20 => (C_warmth N c y20).bind fun p21 => (ld xs (x3 + 1)).bind fun y22 => (R_warmth N r y22).bind fun p23 => (if p21 = p23 then Law_p1787 N xs kb18 c r x3 else some (0, c, r))
def Law_p337 (N : Nat) (xs : List Int32) (kb18 : St → St → Int32 → Option (Int32 × St × St)) (c : St) (r : St) (x3 : Int32) : Option (Int32 × St × St) :=
  (ld xs (x3 + 1)).bind fun y26 => (ld xs (x3 + 2)).bind fun y27 => (C_outer N c y26 y27).bind fun p28 => (ld xs (x3 + 1)).bind fun y29 => (ld xs (x3 + 2)).bind fun y30 => (R_outer N r y29 y30).bind fun p31 => (if p28.1 = p31.1 then Law_p1787 N xs kb18 p28.2 p31.2 x3 else some (0, p28.2, p31.2))
def Law_p411 (N : Nat) (xs : List Int32) (kb18 : St → St → Int32 → Option (Int32 × St × St)) (c : St) (r : St) (x3 : Int32) (s0 : Int32) (s2 : Int32) (s3 : Int32) : Option (Int32 × St × St) :=
  (R_pipe N r s2 s3).bind fun p41 => (if s0 = p41.1 then Law_p1787 N xs kb18 c p41.2 x3 else some (0, c, p41.2))
def Law_p389 (N : Nat) (xs : List Int32) (kb18 : St → St → Int32 → Option (Int32 × St × St)) (c : St) (r : St) (x3 : Int32) (s1 : Int32) (s2 : Int32) : Option (Int32 × St × St) :=
  (C_pipe N c s1 s2).bind fun p37 => (ld xs (x3 + 1)).bind fun y38 => (ld xs (x3 + 2)).bind fun y39 => (if y39 = 0 then Law_p411 N xs kb18 p37.2 r x3 p37.1 y38 0 else Law_p411 N xs kb18 p37.2 r x3 p37.1 y38 1)
def Law_p370 (N : Nat) (xs : List Int32) (kb18 : St → St → Int32 → Option (Int32 × St × St)) (c : St) (r : St) (x3 : Int32) : Option (Int32 × St × St) :=
  (ld xs (x3 + 1)).bind fun y34 => (ld xs (x3 + 2)).bind fun y35 => (if y35 = 0 then Law_p389 N xs kb18 c r x3 y34 0 else Law_p389 N xs kb18 c r x3 y34 1)
def Law_p419 (N : Nat) (xs : List Int32) (kb18 : St → St → Int32 → Option (Int32 × St × St)) (c : St) (r : St) (x3 : Int32) : Option (Int32 × St × St) :=
  (ld xs (x3 + 1)).bind fun y44 => (ld xs (x3 + 2)).bind fun y45 => (C_engine N c y44 y45).bind fun p46 => (ld xs (x3 + 1)).bind fun y47 => (ld xs (x3 + 2)).bind fun y48 => (R_engine N r y47 y48).bind fun p49 => (if p46.1 = p49.1 then Law_p1787 N xs kb18 p46.2 p49.2 x3 else some (0, p46.2, p49.2))
def Law_p452 (N : Nat) (xs : List Int32) (kb18 : St → St → Int32 → Option (Int32 × St × St)) (c : St) (r : St) (x3 : Int32) : Option (Int32 × St × St) :=
  (ld xs (x3 + 1)).bind fun y52 => (C_breaks N c y52).bind fun p53 => (ld xs (x3 + 1)).bind fun y54 => (R_breaks N r y54).bind fun p55 => (if p53.1 = p55.1 then Law_p1787 N xs kb18 p53.2 p55.2 x3 else some (0, p53.2, p55.2))
def Law_p475 (N : Nat) (xs : List Int32) (kb18 : St → St → Int32 → Option (Int32 × St × St)) (c : St) (r : St) (x3 : Int32) : Option (Int32 × St × St) :=
  (ld xs (x3 + 1)).bind fun y58 => (C_sea N c y58).bind fun p59 => (ld xs (x3 + 1)).bind fun y60 => (R_sea N r y60).bind fun p61 => (if p59 = p61 then Law_p1787 N xs kb18 c r x3 else some (0, c, r))
def Law_p498 (N : Nat) (xs : List Int32) (kb18 : St → St → Int32 → Option (Int32 × St × St)) (c : St) (r : St) (x3 : Int32) : Option (Int32 × St × St) :=
  (ld xs (x3 + 1)).bind fun y64 => (C_hours N c y64).bind fun p65 => (ld xs (x3 + 1)).bind fun y66 => (R_hours N r y66).bind fun p67 => (if p65.1 = p67.1 then Law_p1787 N xs kb18 p65.2 p67.2 x3 else some (0, p65.2, p67.2))
def Law_p521 (N : Nat) (xs : List Int32) (kb18 : St → St → Int32 → Option (Int32 × St × St)) (c : St) (r : St) (x3 : Int32) : Option (Int32 × St × St) :=
  (ld xs (x3 + 1)).bind fun y70 => (ld xs (x3 + 2)).bind fun y71 => (C_first N c y70 y71).bind fun p72 => (ld xs (x3 + 1)).bind fun y73 => (ld xs (x3 + 2)).bind fun y74 => (R_first N r y73 y74).bind fun p75 => (if p72.1 = p75.1 then Law_p1787 N xs kb18 p72.2 p75.2 x3 else some (0, p72.2, p75.2))
def Law_p554 (N : Nat) (xs : List Int32) (kb18 : St → St → Int32 → Option (Int32 × St × St)) (c : St) (r : St) (x3 : Int32) : Option (Int32 × St × St) :=
  (ld xs (x3 + 1)).bind fun y78 => (ld xs (x3 + 2)).bind fun y79 => (C_lot N c y78 y79).bind fun p80 => (ld xs (x3 + 1)).bind fun y81 => (ld xs (x3 + 2)).bind fun y82 => (R_lot N r y81 y82).bind fun p83 => (if p80.1 = p83.1 then Law_p1787 N xs kb18 p80.2 p83.2 x3 else some (0, p80.2, p83.2))
def Law_p587 (N : Nat) (xs : List Int32) (kb18 : St → St → Int32 → Option (Int32 × St × St)) (c : St) (r : St) (x3 : Int32) : Option (Int32 × St × St) :=
  (ld xs (x3 + 1)).bind fun y86 => (ld xs (x3 + 2)).bind fun y87 => (C_lay N c y86 y87).bind fun p88 => (ld xs (x3 + 1)).bind fun y89 => (ld xs (x3 + 2)).bind fun y90 => (R_lay N r y89 y90).bind fun p91 => (if p88.1 = p91.1 then Law_p1787 N xs kb18 p88.2 p91.2 x3 else some (0, p88.2, p91.2))
def Law_p620 (N : Nat) (xs : List Int32) (kb18 : St → St → Int32 → Option (Int32 × St × St)) (c : St) (r : St) (x3 : Int32) : Option (Int32 × St × St) :=
  (ld xs (x3 + 1)).bind fun y94 => (ld xs (x3 + 2)).bind fun y95 => (C_about N c y94 y95).bind fun p96 => (ld xs (x3 + 1)).bind fun y97 => (ld xs (x3 + 2)).bind fun y98 => (R_about N r y97 y98).bind fun p99 => (if p96 = p99 then Law_p1787 N xs kb18 c r x3 else some (0, c, r))
def Law_p653 (N : Nat) (xs : List Int32) (kb18 : St → St → Int32 → Option (Int32 × St × St)) (c : St) (r : St) (x3 : Int32) : Option (Int32 × St × St) :=
  (ld xs (x3 + 1)).bind fun y102 => (ld xs (x3 + 2)).bind fun y103 => (C_as N c y102 y103).bind fun p104 => (ld xs (x3 + 1)).bind fun y105 => (ld xs (x3 + 2)).bind fun y106 => (R_as N r y105 y106).bind fun p107 => (if p104 = p107 then Law_p1787 N xs kb18 c r x3 else some (0, c, r))
def Law_p686 (N : Nat) (xs : List Int32) (kb18 : St → St → Int32 → Option (Int32 × St × St)) (c : St) (r : St) (x3 : Int32) : Option (Int32 × St × St) :=
  (ld xs (x3 + 1)).bind fun y110 => (ld xs (x3 + 2)).bind fun y111 => (C_letters N c ((y110.toInt64 <<< ((32 : Int32).toInt64 &&& 63)) ||| (y111.toInt64 &&& 4294967295))).bind fun p112 => (ld xs (x3 + 1)).bind fun y113 => (ld xs (x3 + 2)).bind fun y114 => (R_letters N r ((y113.toInt64 <<< ((32 : Int32).toInt64 &&& 63)) ||| (y114.toInt64 &&& 4294967295))).bind fun p115 => (if p112.1 = p115.1 then Law_p1787 N xs kb18 p112.2 p115.2 x3 else some (0, p112.2, p115.2))
def Law_p739 (N : Nat) (xs : List Int32) (kb18 : St → St → Int32 → Option (Int32 × St × St)) (c : St) (r : St) (x3 : Int32) : Option (Int32 × St × St) :=
  (C_blank N c).bind fun p118 => (R_blank N r).bind fun p119 => (if p118.1 = p119.1 then Law_p1787 N xs kb18 p118.2 p119.2 x3 else some (0, p118.2, p119.2))
def Law_p752 (N : Nat) (xs : List Int32) (kb18 : St → St → Int32 → Option (Int32 × St × St)) (c : St) (r : St) (x3 : Int32) : Option (Int32 × St × St) :=
  (C_fault N c).bind fun p122 => (R_fault N r).bind fun p123 => (if p122.1 = p123.1 then Law_p1787 N xs kb18 p122.2 p123.2 x3 else some (0, p122.2, p123.2))
def Law_p765 (N : Nat) (xs : List Int32) (kb18 : St → St → Int32 → Option (Int32 × St × St)) (c : St) (r : St) (x3 : Int32) : Option (Int32 × St × St) :=
  (C_text N c).bind fun p126 => (R_text N r).bind fun p127 => (if p126.1 = p127.1 then Law_p1787 N xs kb18 p126.2 p127.2 x3 else some (0, p126.2, p127.2))
def Law_p778 (N : Nat) (xs : List Int32) (kb18 : St → St → Int32 → Option (Int32 × St × St)) (c : St) (r : St) (x3 : Int32) : Option (Int32 × St × St) :=
  (ld xs (x3 + 1)).bind fun y130 => (ld xs (x3 + 2)).bind fun y131 => (C_says N c y130 y131).bind fun p132 => (ld xs (x3 + 1)).bind fun y133 => (ld xs (x3 + 2)).bind fun y134 => (R_says N r y133 y134).bind fun p135 => (if p132.1 = p135.1 then Law_p1787 N xs kb18 p132.2 p135.2 x3 else some (0, p132.2, p135.2))
def Law_p811 (N : Nat) (xs : List Int32) (kb18 : St → St → Int32 → Option (Int32 × St × St)) (c : St) (r : St) (x3 : Int32) : Option (Int32 × St × St) :=
  (ld xs (x3 + 1)).bind fun y138 => (ld xs (x3 + 2)).bind fun y139 => (ld xs (x3 + 3)).bind fun y140 => (C_sum N c y138 y139 y140).bind fun p141 => (ld xs (x3 + 1)).bind fun y142 => (ld xs (x3 + 2)).bind fun y143 => (ld xs (x3 + 3)).bind fun y144 => (R_sum N r y142 y143 y144).bind fun p145 => (if (mLc p141.1 p145.1) = 0 then Law_p1787 N xs kb18 p141.2 p145.2 x3 else some (0, p141.2, p145.2))
def Law_p855 (N : Nat) (xs : List Int32) (kb18 : St → St → Int32 → Option (Int32 × St × St)) (c : St) (r : St) (x3 : Int32) : Option (Int32 × St × St) :=
  (ld xs (x3 + 1)).bind fun y148 => (ld xs (x3 + 2)).bind fun y149 => (C_lost N c y148 y149).bind fun p150 => (ld xs (x3 + 1)).bind fun y151 => (ld xs (x3 + 2)).bind fun y152 => (R_lost N r y151 y152).bind fun p153 => (if p150.1 = p153.1 then Law_p1787 N xs kb18 p150.2 p153.2 x3 else some (0, p150.2, p153.2))
def Law_p888 (N : Nat) (xs : List Int32) (kb18 : St → St → Int32 → Option (Int32 × St × St)) (c : St) (r : St) (x3 : Int32) : Option (Int32 × St × St) :=
  (ld xs (x3 + 1)).bind fun y156 => (C_way N c y156).bind fun p157 => (ld xs (x3 + 1)).bind fun y158 => (R_way N r y158).bind fun p159 => (if p157.1 = p159.1 then Law_p1787 N xs kb18 p157.2 p159.2 x3 else some (0, p157.2, p159.2))
def Law_p911 (N : Nat) (xs : List Int32) (kb18 : St → St → Int32 → Option (Int32 × St × St)) (c : St) (r : St) (x3 : Int32) : Option (Int32 × St × St) :=
  (ld xs (x3 + 1)).bind fun y162 => (ld xs (x3 + 2)).bind fun y163 => (C_reading N c y162 y163).bind fun p164 => (ld xs (x3 + 1)).bind fun y165 => (ld xs (x3 + 2)).bind fun y166 => (R_reading N r y165 y166).bind fun p167 => (if p164.1 = p167.1 then Law_p1787 N xs kb18 p164.2 p167.2 x3 else some (0, p164.2, p167.2))
def Law_p944 (N : Nat) (xs : List Int32) (kb18 : St → St → Int32 → Option (Int32 × St × St)) (c : St) (r : St) (x3 : Int32) : Option (Int32 × St × St) :=
  (ld xs (x3 + 1)).bind fun y170 => (C_rate N c y170).bind fun p171 => (ld xs (x3 + 1)).bind fun y172 => (R_rate N r y172).bind fun p173 => (if p171.1 = p173.1 then Law_p1787 N xs kb18 p171.2 p173.2 x3 else some (0, p171.2, p173.2))
def Law_p967 (N : Nat) (xs : List Int32) (kb18 : St → St → Int32 → Option (Int32 × St × St)) (c : St) (r : St) (x3 : Int32) : Option (Int32 × St × St) :=
  (ld xs (x3 + 1)).bind fun y176 => (ld xs (x3 + 2)).bind fun y177 => (C_could N c y176 y177).bind fun p178 => (ld xs (x3 + 1)).bind fun y179 => (ld xs (x3 + 2)).bind fun y180 => (R_could N r y179 y180).bind fun p181 => (if p178 = p181 then Law_p1787 N xs kb18 c r x3 else some (0, c, r))
def Law_p1000 (N : Nat) (xs : List Int32) (kb18 : St → St → Int32 → Option (Int32 × St × St)) (c : St) (r : St) (x3 : Int32) : Option (Int32 × St × St) :=
  (ld xs (x3 + 1)).bind fun y184 => (ld xs (x3 + 2)).bind fun y185 => (ld xs (x3 + 3)).bind fun y186 => (C_was N c y184 y185 y186).bind fun p187 => (ld xs (x3 + 1)).bind fun y188 => (ld xs (x3 + 2)).bind fun y189 => (ld xs (x3 + 3)).bind fun y190 => (R_was N r y188 y189 y190).bind fun p191 => (if p187 = p191 then Law_p1787 N xs kb18 c r x3 else some (0, c, r))
def Law_p1043 (N : Nat) (xs : List Int32) (kb18 : St → St → Int32 → Option (Int32 × St × St)) (c : St) (r : St) (x3 : Int32) : Option (Int32 × St × St) :=
  (ld xs (x3 + 1)).bind fun y194 => (C_arrive N c y194).bind fun p195 => (ld xs (x3 + 1)).bind fun y196 => (R_arrive N r y196).bind fun p197 => (if p195.1 = p197.1 then Law_p1787 N xs kb18 p195.2 p197.2 x3 else some (0, p195.2, p197.2))
def Law_p1066 (N : Nat) (xs : List Int32) (kb18 : St → St → Int32 → Option (Int32 × St × St)) (c : St) (r : St) (x3 : Int32) : Option (Int32 × St × St) :=
  (ld xs (x3 + 1)).bind fun y200 => (ld xs (x3 + 2)).bind fun y201 => (ld xs (x3 + 3)).bind fun y202 => (C_laid N c y200 y201 y202).bind fun p203 => (ld xs (x3 + 1)).bind fun y204 => (ld xs (x3 + 2)).bind fun y205 => (ld xs (x3 + 3)).bind fun y206 => (R_laid N r y204 y205 y206).bind fun p207 => (if p203.1 = p207.1 then Law_p1787 N xs kb18 p203.2 p207.2 x3 else some (0, p203.2, p207.2))
def Law_p1109 (N : Nat) (xs : List Int32) (kb18 : St → St → Int32 → Option (Int32 × St × St)) (c : St) (r : St) (x3 : Int32) : Option (Int32 × St × St) :=
  (ld xs (x3 + 1)).bind fun y210 => (ld xs (x3 + 2)).bind fun y211 => (C_flock N c y210 y211).bind fun p212 => (ld xs (x3 + 1)).bind fun y213 => (ld xs (x3 + 2)).bind fun y214 => (R_flock N r y213 y214).bind fun p215 => (if p212.1 = p215.1 then Law_p1787 N xs kb18 p212.2 p215.2 x3 else some (0, p212.2, p215.2))
def Law_p1142 (N : Nat) (xs : List Int32) (kb18 : St → St → Int32 → Option (Int32 × St × St)) (c : St) (r : St) (x3 : Int32) : Option (Int32 × St × St) :=
  (ld xs (x3 + 1)).bind fun y218 => (ld xs (x3 + 2)).bind fun y219 => (C_works N c y218 y219).bind fun p220 => (ld xs (x3 + 1)).bind fun y221 => (ld xs (x3 + 2)).bind fun y222 => (R_works N r y221 y222).bind fun p223 => (if p220.1 = p223.1 then Law_p1787 N xs kb18 p220.2 p223.2 x3 else some (0, p220.2, p223.2))
def Law_p1175 (N : Nat) (xs : List Int32) (kb18 : St → St → Int32 → Option (Int32 × St × St)) (c : St) (r : St) (x3 : Int32) : Option (Int32 × St × St) :=
  (ld xs (x3 + 1)).bind fun y226 => (ld xs (x3 + 2)).bind fun y227 => (ld xs (x3 + 3)).bind fun y228 => (C_days N c y226 y227 y228).bind fun p229 => (ld xs (x3 + 1)).bind fun y230 => (ld xs (x3 + 2)).bind fun y231 => (ld xs (x3 + 3)).bind fun y232 => (R_days N r y230 y231 y232).bind fun p233 => (if p229.1 = p233.1 then Law_p1787 N xs kb18 p229.2 p233.2 x3 else some (0, p229.2, p233.2))
def Law_p1218 (N : Nat) (xs : List Int32) (kb18 : St → St → Int32 → Option (Int32 × St × St)) (c : St) (r : St) (x3 : Int32) : Option (Int32 × St × St) :=
  (ld xs (x3 + 1)).bind fun y236 => (C_loss N c y236).bind fun p237 => (ld xs (x3 + 1)).bind fun y238 => (R_loss N r y238).bind fun p239 => (if p237.1 = p239.1 then Law_p1787 N xs kb18 p237.2 p239.2 x3 else some (0, p237.2, p239.2))
def Law_p1241 (N : Nat) (xs : List Int32) (kb18 : St → St → Int32 → Option (Int32 × St × St)) (c : St) (r : St) (x3 : Int32) : Option (Int32 × St × St) :=
  (ld xs (x3 + 1)).bind fun y242 => (C_driven N c y242).bind fun p243 => (ld xs (x3 + 1)).bind fun y244 => (R_driven N r y244).bind fun p245 => (if p243.1 = p245.1 then Law_p1787 N xs kb18 p243.2 p245.2 x3 else some (0, p243.2, p245.2))
def Law_p1264 (N : Nat) (xs : List Int32) (kb18 : St → St → Int32 → Option (Int32 × St × St)) (c : St) (r : St) (x3 : Int32) : Option (Int32 × St × St) :=
  (ld xs (x3 + 1)).bind fun y248 => (ld xs (x3 + 2)).bind fun y249 => (C_market N c y248 y249).bind fun p250 => (ld xs (x3 + 1)).bind fun y251 => (ld xs (x3 + 2)).bind fun y252 => (R_market N r y251 y252).bind fun p253 => (if p250.1 = p253.1 then Law_p1787 N xs kb18 p250.2 p253.2 x3 else some (0, p250.2, p253.2))
def Law_p1297 (N : Nat) (xs : List Int32) (kb18 : St → St → Int32 → Option (Int32 × St × St)) (c : St) (r : St) (x3 : Int32) : Option (Int32 × St × St) :=
  (ld xs (x3 + 1)).bind fun y256 => (ld xs (x3 + 2)).bind fun y257 => (C_seller N c y256 y257).bind fun p258 => (ld xs (x3 + 1)).bind fun y259 => (ld xs (x3 + 2)).bind fun y260 => (R_seller N r y259 y260).bind fun p261 => (if p258.1 = p261.1 then Law_p1787 N xs kb18 p258.2 p261.2 x3 else some (0, p258.2, p261.2))
def Law_p1330 (N : Nat) (xs : List Int32) (kb18 : St → St → Int32 → Option (Int32 × St × St)) (c : St) (r : St) (x3 : Int32) : Option (Int32 × St × St) :=
  (ld xs (x3 + 1)).bind fun y264 => (ld xs (x3 + 2)).bind fun y265 => (C_week N c y264 y265).bind fun p266 => (ld xs (x3 + 1)).bind fun y267 => (ld xs (x3 + 2)).bind fun y268 => (R_week N r y267 y268).bind fun p269 => (if p266.1 = p269.1 then Law_p1787 N xs kb18 p266.2 p269.2 x3 else some (0, p266.2, p269.2))
def Law_p1363 (N : Nat) (xs : List Int32) (kb18 : St → St → Int32 → Option (Int32 × St × St)) (c : St) (r : St) (x3 : Int32) : Option (Int32 × St × St) :=
  (ld xs (x3 + 1)).bind fun y272 => (C_turns N c y272).bind fun p273 => (ld xs (x3 + 1)).bind fun y274 => (R_turns N r y274).bind fun p275 => (if p273.1 = p275.1 then Law_p1787 N xs kb18 p273.2 p275.2 x3 else some (0, p273.2, p275.2))
def Law_p1386 (N : Nat) (xs : List Int32) (kb18 : St → St → Int32 → Option (Int32 × St × St)) (c : St) (r : St) (x3 : Int32) : Option (Int32 × St × St) :=
  (ld xs (x3 + 1)).bind fun y278 => (ld xs (x3 + 2)).bind fun y279 => (C_farm N c y278 y279).bind fun p280 => (ld xs (x3 + 1)).bind fun y281 => (ld xs (x3 + 2)).bind fun y282 => (R_farm N r y281 y282).bind fun p283 => (if p280.1 = p283.1 then Law_p1787 N xs kb18 p280.2 p283.2 x3 else some (0, p280.2, p283.2))
def Law_p1419 (N : Nat) (xs : List Int32) (kb18 : St → St → Int32 → Option (Int32 × St × St)) (c : St) (r : St) (x3 : Int32) : Option (Int32 × St × St) :=
  (ld xs (x3 + 1)).bind fun y286 => (ld xs (x3 + 2)).bind fun y287 => (ld xs (x3 + 3)).bind fun y288 => (C_owe N c y286 y287 y288).bind fun p289 => (ld xs (x3 + 1)).bind fun y290 => (ld xs (x3 + 2)).bind fun y291 => (ld xs (x3 + 3)).bind fun y292 => (R_owe N r y290 y291 y292).bind fun p293 => (if p289.1 = p293.1 then Law_p1787 N xs kb18 p289.2 p293.2 x3 else some (0, p289.2, p293.2))
def Law_p1462 (N : Nat) (xs : List Int32) (kb18 : St → St → Int32 → Option (Int32 × St × St)) (c : St) (r : St) (x3 : Int32) : Option (Int32 × St × St) :=
  (ld xs (x3 + 1)).bind fun y296 => (ld xs (x3 + 2)).bind fun y297 => (C_falls N c y296 y297).bind fun p298 => (ld xs (x3 + 1)).bind fun y299 => (ld xs (x3 + 2)).bind fun y300 => (R_falls N r y299 y300).bind fun p301 => (if p298.1 = p301.1 then Law_p1787 N xs kb18 p298.2 p301.2 x3 else some (0, p298.2, p301.2))
def Law_p1495 (N : Nat) (xs : List Int32) (kb18 : St → St → Int32 → Option (Int32 × St × St)) (c : St) (r : St) (x3 : Int32) : Option (Int32 × St × St) :=
  (ld xs (x3 + 1)).bind fun y304 => (C_safe N c y304).bind fun p305 => (ld xs (x3 + 1)).bind fun y306 => (R_safe N r y306).bind fun p307 => (if p305.1 = p307.1 then Law_p1787 N xs kb18 p305.2 p307.2 x3 else some (0, p305.2, p307.2))
def Law_p1518 (N : Nat) (xs : List Int32) (kb18 : St → St → Int32 → Option (Int32 × St × St)) (c : St) (r : St) (x3 : Int32) : Option (Int32 × St × St) :=
  (ld xs (x3 + 1)).bind fun y310 => (ld xs (x3 + 2)).bind fun y311 => (C_line N c y310 y311).bind fun p312 => (ld xs (x3 + 1)).bind fun y313 => (ld xs (x3 + 2)).bind fun y314 => (R_line N r y313 y314).bind fun p315 => (if p312.1 = p315.1 then Law_p1787 N xs kb18 p312.2 p315.2 x3 else some (0, p312.2, p315.2))
def Law_p1551 (N : Nat) (xs : List Int32) (kb18 : St → St → Int32 → Option (Int32 × St × St)) (c : St) (r : St) (x3 : Int32) : Option (Int32 × St × St) :=
  (ld xs (x3 + 1)).bind fun y318 => (ld xs (x3 + 2)).bind fun y319 => (C_ring N c y318 y319).bind fun p320 => (ld xs (x3 + 1)).bind fun y321 => (ld xs (x3 + 2)).bind fun y322 => (R_ring N r y321 y322).bind fun p323 => (if p320.1 = p323.1 then Law_p1787 N xs kb18 p320.2 p323.2 x3 else some (0, p320.2, p323.2))
def Law_p1584 (N : Nat) (xs : List Int32) (kb18 : St → St → Int32 → Option (Int32 × St × St)) (c : St) (r : St) (x3 : Int32) : Option (Int32 × St × St) :=
  (ld xs (x3 + 1)).bind fun y326 => (ld xs (x3 + 2)).bind fun y327 => (C_earns N c y326 y327).bind fun p328 => (ld xs (x3 + 1)).bind fun y329 => (ld xs (x3 + 2)).bind fun y330 => (R_earns N r y329 y330).bind fun p331 => (if (mLc p328 p331) = 0 then Law_p1787 N xs kb18 c r x3 else some (0, c, r))
def Law_p1618 (N : Nat) (xs : List Int32) (kb18 : St → St → Int32 → Option (Int32 × St × St)) (c : St) (r : St) (x3 : Int32) : Option (Int32 × St × St) :=
  (ld xs (x3 + 1)).bind fun y334 => (C_stable N c y334).bind fun p335 => (ld xs (x3 + 1)).bind fun y336 => (R_stable N r y336).bind fun p337 => (if p335 = p337 then Law_p1787 N xs kb18 c r x3 else some (0, c, r))
def Law_p1641 (N : Nat) (xs : List Int32) (kb18 : St → St → Int32 → Option (Int32 × St × St)) (c : St) (r : St) (x3 : Int32) : Option (Int32 × St × St) :=
  (ld xs (x3 + 1)).bind fun y340 => (C_choice N c y340).bind fun p341 => (ld xs (x3 + 1)).bind fun y342 => (R_choice N r y342).bind fun p343 => (if p341.1 = p343.1 then Law_p1787 N xs kb18 p341.2 p343.2 x3 else some (0, p341.2, p343.2))
def Law_p1664 (N : Nat) (xs : List Int32) (kb18 : St → St → Int32 → Option (Int32 × St × St)) (c : St) (r : St) (x3 : Int32) : Option (Int32 × St × St) :=
  (ld xs (x3 + 1)).bind fun y346 => (ld xs (x3 + 2)).bind fun y347 => (ld xs (x3 + 3)).bind fun y348 => (C_gives N c y346 y347 y348).bind fun p349 => (ld xs (x3 + 1)).bind fun y350 => (ld xs (x3 + 2)).bind fun y351 => (ld xs (x3 + 3)).bind fun y352 => (R_gives N r y350 y351 y352).bind fun p353 => (if p349.1 = p353.1 then Law_p1787 N xs kb18 p349.2 p353.2 x3 else some (0, p349.2, p353.2))
def Law_p1707 (N : Nat) (xs : List Int32) (kb18 : St → St → Int32 → Option (Int32 × St × St)) (c : St) (r : St) (x3 : Int32) : Option (Int32 × St × St) :=
  (ld xs (x3 + 1)).bind fun y356 => (ld xs (x3 + 2)).bind fun y357 => (ld xs (x3 + 3)).bind fun y358 => (C_plan N c y356 y357 y358).bind fun p359 => (ld xs (x3 + 1)).bind fun y360 => (ld xs (x3 + 2)).bind fun y361 => (ld xs (x3 + 3)).bind fun y362 => (R_plan N r y360 y361 y362).bind fun p363 => (if p359 = p363 then Law_p1787 N xs kb18 c r x3 else some (0, c, r))
def Law_p1750 (N : Nat) (xs : List Int32) (kb18 : St → St → Int32 → Option (Int32 × St × St)) (c : St) (r : St) (x3 : Int32) : Option (Int32 × St × St) :=
  (ld xs (x3 + 1)).bind fun y366 => (C_count N c y366).bind fun p367 => (ld xs (x3 + 1)).bind fun y368 => (R_count N r y368).bind fun p369 => (if p367 = p369 then Law_p1787 N xs kb18 c r x3 else some (0, c, r))
def Law_p1773 (N : Nat) (xs : List Int32) (kb18 : St → St → Int32 → Option (Int32 × St × St)) (c : St) (r : St) (x3 : Int32) : Option (Int32 × St × St) :=
  (C_digest N c).bind fun p372 => (R_digest N r).bind fun p373 => (if (mLc p372.1 p373.1) = 0 then Law_p1787 N xs kb18 p372.2 p373.2 x3 else some (0, p372.2, p373.2))
def Law_p18b (N : Nat) (xs : List Int32) (kb18 : St → St → Int32 → Option (Int32 × St × St)) (c : St) (r : St) (x3 : Int32) : Option (Int32 × St × St) :=
  (if ((Int32.ofNat xs.length) - 4) < x3 then some (1, c, r) else (ld xs x3).bind fun y2 => (if (y2 &&& 63) = 0 then Law_p248 N xs kb18 c r x3 else (if (y2 &&& 63) = 1 then Law_p281 N xs kb18 c r x3 else (if (y2 &&& 63) = 2 then Law_p314 N xs kb18 c r x3 else (if (y2 &&& 63) = 3 then Law_p337 N xs kb18 c r x3 else (if (y2 &&& 63) = 4 then Law_p370 N xs kb18 c r x3 else (if (y2 &&& 63) = 5 then Law_p419 N xs kb18 c r x3 else (if (y2 &&& 63) = 6 then Law_p452 N xs kb18 c r x3 else (if (y2 &&& 63) = 7 then Law_p475 N xs kb18 c r x3 else (if (y2 &&& 63) = 8 then Law_p498 N xs kb18 c r x3 else (if (y2 &&& 63) = 9 then Law_p521 N xs kb18 c r x3 else (if (y2 &&& 63) = 10 then Law_p554 N xs kb18 c r x3 else (if (y2 &&& 63) = 11 then Law_p587 N xs kb18 c r x3 else (if (y2 &&& 63) = 12 then Law_p620 N xs kb18 c r x3 else (if (y2 &&& 63) = 13 then Law_p653 N xs kb18 c r x3 else (if (y2 &&& 63) = 14 then Law_p686 N xs kb18 c r x3 else (if (y2 &&& 63) = 15 then Law_p739 N xs kb18 c r x3 else (if (y2 &&& 63) = 16 then Law_p752 N xs kb18 c r x3 else (if (y2 &&& 63) = 17 then Law_p765 N xs kb18 c r x3 else (if (y2 &&& 63) = 18 then Law_p778 N xs kb18 c r x3 else (if (y2 &&& 63) = 19 then Law_p811 N xs kb18 c r x3 else (if (y2 &&& 63) = 20 then Law_p855 N xs kb18 c r x3 else (if (y2 &&& 63) = 21 then Law_p888 N xs kb18 c r x3 else (if (y2 &&& 63) = 22 then Law_p911 N xs kb18 c r x3 else (if (y2 &&& 63) = 23 then Law_p944 N xs kb18 c r x3 else (if (y2 &&& 63) = 24 then Law_p967 N xs kb18 c r x3 else (if (y2 &&& 63) = 25 then Law_p1000 N xs kb18 c r x3 else (if (y2 &&& 63) = 26 then Law_p1043 N xs kb18 c r x3 else (if (y2 &&& 63) = 27 then Law_p1066 N xs kb18 c r x3 else (if (y2 &&& 63) = 28 then Law_p1109 N xs kb18 c r x3 else (if (y2 &&& 63) = 29 then Law_p1142 N xs kb18 c r x3 else (if (y2 &&& 63) = 30 then Law_p1175 N xs kb18 c r x3 else (if (y2 &&& 63) = 31 then Law_p1218 N xs kb18 c r x3 else (if (y2 &&& 63) = 32 then Law_p1241 N xs kb18 c r x3 else (if (y2 &&& 63) = 33 then Law_p1264 N xs kb18 c r x3 else (if (y2 &&& 63) = 34 then Law_p1297 N xs kb18 c r x3 else (if (y2 &&& 63) = 35 then Law_p1330 N xs kb18 c r x3 else (if (y2 &&& 63) = 36 then Law_p1363 N xs kb18 c r x3 else (if (y2 &&& 63) = 37 then Law_p1386 N xs kb18 c r x3 else (if (y2 &&& 63) = 38 then Law_p1419 N xs kb18 c r x3 else (if (y2 &&& 63) = 39 then Law_p1462 N xs kb18 c r x3 else (if (y2 &&& 63) = 40 then Law_p1495 N xs kb18 c r x3 else (if (y2 &&& 63) = 41 then Law_p1518 N xs kb18 c r x3 else (if (y2 &&& 63) = 42 then Law_p1551 N xs kb18 c r x3 else (if (y2 &&& 63) = 43 then Law_p1584 N xs kb18 c r x3 else (if (y2 &&& 63) = 44 then Law_p1618 N xs kb18 c r x3 else (if (y2 &&& 63) = 45 then Law_p1641 N xs kb18 c r x3 else (if (y2 &&& 63) = 46 then Law_p1664 N xs kb18 c r x3 else (if (y2 &&& 63) = 47 then Law_p1707 N xs kb18 c r x3 else (if (y2 &&& 63) = 48 then Law_p1750 N xs kb18 c r x3 else (if (y2 &&& 63) = 49 then Law_p1773 N xs kb18 c r x3 else Law_p1787 N xs kb18 c r x3)))))))))))))))))))))))))))))))))))))))))))))))))))
def Law_p18 (N : Nat) (xs : List Int32) : Nat → St → St → Int32 → Option (Int32 × St × St)
  | 0 => fun _ _ _ => none
  | n + 1 => Law_p18b N xs (Law_p18 N xs n)
set_option maxHeartbeats 8000000 in
set_option maxRecDepth 100000 in
theorem t_Law_p1787 (N d : Nat) (xs : List Int32) (kb18 : St → St → Int32 → Option (Int32 × St × St)) (hb18 : ∀ (c : St) (r : St) (x3 : Int32), Ok (mBig (mRoL xs) (d + 15)) (mRoL xs) 2 mK264 (fun p : Int32 × St × St => (some (.int p.1), HP p.2.1 p.2.2)) (kb18 c r x3) 18 [some (.ref (mBase + 5)), some (.ref 0), some (.ref 115), some (.int x3)] [] (HP c r)) (c : St) (r : St) (x3 : Int32) : Ok (mBig (mRoL xs) (d + 15)) (mRoL xs) 2 mK264 (fun p : Int32 × St × St => (some (.int p.1), HP p.2.1 p.2.2)) (Law_p1787 N xs kb18 c r x3) 1787 [some (.ref (mBase + 5)), some (.ref 0), some (.ref 115), some (.int x3)] [] (HP c r) := by
  unfold Law_p1787
  refine Ok_blk 2 (pc2 := 18) (lo2 := [some (.ref (mBase + 5)), some (.ref 0), some (.ref 115), some (.int (x3 + 4))]) (st2 := []) rfl ?_
  refine Ok_drop (lo0 := [some (.ref (mBase + 5)), some (.ref 0), some (.ref 115), some (.int (x3 + 4))]) ⟨Or.inr rfl, Or.inr rfl, Or.inr rfl, Or.inr rfl, trivial⟩ ?_
  exact hb18 c r (x3 + 4)
set_option maxHeartbeats 8000000 in
set_option maxRecDepth 100000 in
theorem t_Law_p248 (N d : Nat) (xs : List Int32) (kb18 : St → St → Int32 → Option (Int32 × St × St)) (hb18 : ∀ (c : St) (r : St) (x3 : Int32), Ok (mBig (mRoL xs) (d + 15)) (mRoL xs) 2 mK264 (fun p : Int32 × St × St => (some (.int p.1), HP p.2.1 p.2.2)) (kb18 c r x3) 18 [some (.ref (mBase + 5)), some (.ref 0), some (.ref 115), some (.int x3)] [] (HP c r)) (c : St) (r : St) (x3 : Int32) : Ok (mBig (mRoL xs) (d + 15)) (mRoL xs) 2 mK264 (fun p : Int32 × St × St => (some (.int p.1), HP p.2.1 p.2.2)) (Law_p248 N xs kb18 c r x3) 248 [some (.ref (mBase + 5)), some (.ref 0), some (.ref 115), some (.int x3)] [] (HP c r) := by
  unfold Law_p248
  refine Ok_blk 5 (pc2 := 253) (lo2 := [some (.ref (mBase + 5)), some (.ref 0), some (.ref 115), some (.int x3)]) (st2 := [.int (x3 + 1), .ref (mBase + 5), .ref 0]) rfl ?_
  refine Ok_ld (l := xs) rfl rfl (fun y4 hy4 => ?_)
  refine Ok_blk 4 (pc2 := 258) (lo2 := [some (.ref (mBase + 5)), some (.ref 0), some (.ref 115), some (.int x3)]) (st2 := [.int (x3 + 2), .ref (mBase + 5), .int y4, .ref 0]) rfl ?_
  refine Ok_ld (l := xs) rfl rfl (fun y5 hy5 => ?_)
  refine Ok_call (y := 108) (as := [.ref 0, .int y4, .int y5]) (rest := []) (w := fun p6 => some (.int p6.1)) (h1 := fun p6 => HP p6.2 r) rfl rfl (fun x hx => tm_C_leg N (d + 13) xs c r y4 y5 x hx) (fun p6 hp6 => ?_)
  refine Ok_blk 5 (pc2 := 267) (lo2 := [some (.ref (mBase + 5)), some (.ref 0), some (.ref 115), some (.int x3)]) (st2 := [.int (x3 + 1), .ref (mBase + 5), .ref 115, .int p6.1]) rfl ?_
  refine Ok_ld (l := xs) rfl rfl (fun y7 hy7 => ?_)
  refine Ok_blk 4 (pc2 := 272) (lo2 := [some (.ref (mBase + 5)), some (.ref 0), some (.ref 115), some (.int x3)]) (st2 := [.int (x3 + 2), .ref (mBase + 5), .int y7, .ref 115, .int p6.1]) rfl ?_
  refine Ok_ld (l := xs) rfl rfl (fun y8 hy8 => ?_)
  refine Ok_call (y := 167) (as := [.ref 115, .int y7, .int y8]) (rest := [.int p6.1]) (w := fun p9 => some (.int p9.1)) (h1 := fun p9 => HP p6.2 p9.2) rfl rfl (fun x hx => tm_R_leg N (d + 13) xs p6.2 r y7 y8 x hx) (fun p9 hp9 => ?_)
  refine Ok_blk 1 (pc2 := (if p6.1 = p9.1 then 1787 else 279)) (lo2 := [some (.ref (mBase + 5)), some (.ref 0), some (.ref 115), some (.int x3)]) (st2 := []) rfl ?_
  refine Ok_if (fun h10 => ?_) (fun h10 => ?_)
  · refine Ok_drop (lo0 := [some (.ref (mBase + 5)), some (.ref 0), some (.ref 115), some (.int x3)]) ⟨Or.inr rfl, Or.inr rfl, Or.inr rfl, Or.inr rfl, trivial⟩ ?_
    exact t_Law_p1787 N d xs kb18 hb18 p6.2 p9.2 x3
  · refine Ok_blk 1 (pc2 := 280) (lo2 := [some (.ref (mBase + 5)), some (.ref 0), some (.ref 115), some (.int x3)]) (st2 := [.int 0]) rfl ?_
    exact Ok_rez (Or.inl rfl) rfl rfl
set_option maxHeartbeats 8000000 in
set_option maxRecDepth 100000 in
theorem t_Law_p281 (N d : Nat) (xs : List Int32) (kb18 : St → St → Int32 → Option (Int32 × St × St)) (hb18 : ∀ (c : St) (r : St) (x3 : Int32), Ok (mBig (mRoL xs) (d + 15)) (mRoL xs) 2 mK264 (fun p : Int32 × St × St => (some (.int p.1), HP p.2.1 p.2.2)) (kb18 c r x3) 18 [some (.ref (mBase + 5)), some (.ref 0), some (.ref 115), some (.int x3)] [] (HP c r)) (c : St) (r : St) (x3 : Int32) : Ok (mBig (mRoL xs) (d + 15)) (mRoL xs) 2 mK264 (fun p : Int32 × St × St => (some (.int p.1), HP p.2.1 p.2.2)) (Law_p281 N xs kb18 c r x3) 281 [some (.ref (mBase + 5)), some (.ref 0), some (.ref 115), some (.int x3)] [] (HP c r) := by
  unfold Law_p281
  refine Ok_blk 5 (pc2 := 286) (lo2 := [some (.ref (mBase + 5)), some (.ref 0), some (.ref 115), some (.int x3)]) (st2 := [.int (x3 + 1), .ref (mBase + 5), .ref 0]) rfl ?_
  refine Ok_ld (l := xs) rfl rfl (fun y12 hy12 => ?_)
  refine Ok_blk 4 (pc2 := 291) (lo2 := [some (.ref (mBase + 5)), some (.ref 0), some (.ref 115), some (.int x3)]) (st2 := [.int (x3 + 2), .ref (mBase + 5), .int y12, .ref 0]) rfl ?_
  refine Ok_ld (l := xs) rfl rfl (fun y13 hy13 => ?_)
  refine Ok_call (y := 109) (as := [.ref 0, .int y12, .int y13]) (rest := []) (w := fun p14 => some (.int p14.1)) (h1 := fun p14 => HP p14.2 r) rfl rfl (fun x hx => tm_C_warm N (d + 12) xs c r y12 y13 x hx) (fun p14 hp14 => ?_)
  refine Ok_blk 5 (pc2 := 300) (lo2 := [some (.ref (mBase + 5)), some (.ref 0), some (.ref 115), some (.int x3)]) (st2 := [.int (x3 + 1), .ref (mBase + 5), .ref 115, .int p14.1]) rfl ?_
  refine Ok_ld (l := xs) rfl rfl (fun y15 hy15 => ?_)
  refine Ok_blk 4 (pc2 := 305) (lo2 := [some (.ref (mBase + 5)), some (.ref 0), some (.ref 115), some (.int x3)]) (st2 := [.int (x3 + 2), .ref (mBase + 5), .int y15, .ref 115, .int p14.1]) rfl ?_
  refine Ok_ld (l := xs) rfl rfl (fun y16 hy16 => ?_)
  refine Ok_call (y := 168) (as := [.ref 115, .int y15, .int y16]) (rest := [.int p14.1]) (w := fun p17 => some (.int p17.1)) (h1 := fun p17 => HP p14.2 p17.2) rfl rfl (fun x hx => tm_R_warm N (d + 12) xs p14.2 r y15 y16 x hx) (fun p17 hp17 => ?_)
  refine Ok_blk 1 (pc2 := (if p14.1 = p17.1 then 1787 else 312)) (lo2 := [some (.ref (mBase + 5)), some (.ref 0), some (.ref 115), some (.int x3)]) (st2 := []) rfl ?_
  refine Ok_if (fun h18 => ?_) (fun h18 => ?_)
  · refine Ok_drop (lo0 := [some (.ref (mBase + 5)), some (.ref 0), some (.ref 115), some (.int x3)]) ⟨Or.inr rfl, Or.inr rfl, Or.inr rfl, Or.inr rfl, trivial⟩ ?_
    exact t_Law_p1787 N d xs kb18 hb18 p14.2 p17.2 x3
  · refine Ok_blk 1 (pc2 := 313) (lo2 := [some (.ref (mBase + 5)), some (.ref 0), some (.ref 115), some (.int x3)]) (st2 := [.int 0]) rfl ?_
    exact Ok_rez (Or.inl rfl) rfl rfl
set_option maxHeartbeats 8000000 in
set_option maxRecDepth 100000 in
theorem t_Law_p314 (N d : Nat) (xs : List Int32) (kb18 : St → St → Int32 → Option (Int32 × St × St)) (hb18 : ∀ (c : St) (r : St) (x3 : Int32), Ok (mBig (mRoL xs) (d + 15)) (mRoL xs) 2 mK264 (fun p : Int32 × St × St => (some (.int p.1), HP p.2.1 p.2.2)) (kb18 c r x3) 18 [some (.ref (mBase + 5)), some (.ref 0), some (.ref 115), some (.int x3)] [] (HP c r)) (c : St) (r : St) (x3 : Int32) : Ok (mBig (mRoL xs) (d + 15)) (mRoL xs) 2 mK264 (fun p : Int32 × St × St => (some (.int p.1), HP p.2.1 p.2.2)) (Law_p314 N xs kb18 c r x3) 314 [some (.ref (mBase + 5)), some (.ref 0), some (.ref 115), some (.int x3)] [] (HP c r) := by
  unfold Law_p314
  refine Ok_blk 5 (pc2 := 319) (lo2 := [some (.ref (mBase + 5)), some (.ref 0), some (.ref 115), some (.int x3)]) (st2 := [.int (x3 + 1), .ref (mBase + 5), .ref 0]) rfl ?_
  refine Ok_ld (l := xs) rfl rfl (fun y20 hy20 => ?_)
  refine Ok_call (y := 110) (as := [.ref 0, .int y20]) (rest := []) (w := fun p21 => some (.int p21)) (h1 := fun p21 => HP c r) rfl rfl (fun x hx => tm_C_warmth N (d + 12) xs c r y20 x hx) (fun p21 hp21 => ?_)
  refine Ok_blk 5 (pc2 := 328) (lo2 := [some (.ref (mBase + 5)), some (.ref 0), some (.ref 115), some (.int x3)]) (st2 := [.int (x3 + 1), .ref (mBase + 5), .ref 115, .int p21]) rfl ?_
  refine Ok_ld (l := xs) rfl rfl (fun y22 hy22 => ?_)
  refine Ok_call (y := 169) (as := [.ref 115, .int y22]) (rest := [.int p21]) (w := fun p23 => some (.int p23)) (h1 := fun p23 => HP c r) rfl rfl (fun x hx => tm_R_warmth N (d + 12) xs c r y22 x hx) (fun p23 hp23 => ?_)
  refine Ok_blk 1 (pc2 := (if p21 = p23 then 1787 else 335)) (lo2 := [some (.ref (mBase + 5)), some (.ref 0), some (.ref 115), some (.int x3)]) (st2 := []) rfl ?_
  refine Ok_if (fun h24 => ?_) (fun h24 => ?_)
  · refine Ok_drop (lo0 := [some (.ref (mBase + 5)), some (.ref 0), some (.ref 115), some (.int x3)]) ⟨Or.inr rfl, Or.inr rfl, Or.inr rfl, Or.inr rfl, trivial⟩ ?_
    exact t_Law_p1787 N d xs kb18 hb18 c r x3
  · refine Ok_blk 1 (pc2 := 336) (lo2 := [some (.ref (mBase + 5)), some (.ref 0), some (.ref 115), some (.int x3)]) (st2 := [.int 0]) rfl ?_
    exact Ok_rez (Or.inl rfl) rfl rfl
set_option maxHeartbeats 8000000 in
set_option maxRecDepth 100000 in
theorem t_Law_p337 (N d : Nat) (xs : List Int32) (kb18 : St → St → Int32 → Option (Int32 × St × St)) (hb18 : ∀ (c : St) (r : St) (x3 : Int32), Ok (mBig (mRoL xs) (d + 15)) (mRoL xs) 2 mK264 (fun p : Int32 × St × St => (some (.int p.1), HP p.2.1 p.2.2)) (kb18 c r x3) 18 [some (.ref (mBase + 5)), some (.ref 0), some (.ref 115), some (.int x3)] [] (HP c r)) (c : St) (r : St) (x3 : Int32) : Ok (mBig (mRoL xs) (d + 15)) (mRoL xs) 2 mK264 (fun p : Int32 × St × St => (some (.int p.1), HP p.2.1 p.2.2)) (Law_p337 N xs kb18 c r x3) 337 [some (.ref (mBase + 5)), some (.ref 0), some (.ref 115), some (.int x3)] [] (HP c r) := by
  unfold Law_p337
  refine Ok_blk 5 (pc2 := 342) (lo2 := [some (.ref (mBase + 5)), some (.ref 0), some (.ref 115), some (.int x3)]) (st2 := [.int (x3 + 1), .ref (mBase + 5), .ref 0]) rfl ?_
  refine Ok_ld (l := xs) rfl rfl (fun y26 hy26 => ?_)
  refine Ok_blk 4 (pc2 := 347) (lo2 := [some (.ref (mBase + 5)), some (.ref 0), some (.ref 115), some (.int x3)]) (st2 := [.int (x3 + 2), .ref (mBase + 5), .int y26, .ref 0]) rfl ?_
  refine Ok_ld (l := xs) rfl rfl (fun y27 hy27 => ?_)
  refine Ok_call (y := 111) (as := [.ref 0, .int y26, .int y27]) (rest := []) (w := fun p28 => some (.int p28.1)) (h1 := fun p28 => HP p28.2 r) rfl rfl (fun x hx => tm_C_outer N (d + 12) xs c r y26 y27 x hx) (fun p28 hp28 => ?_)
  refine Ok_blk 5 (pc2 := 356) (lo2 := [some (.ref (mBase + 5)), some (.ref 0), some (.ref 115), some (.int x3)]) (st2 := [.int (x3 + 1), .ref (mBase + 5), .ref 115, .int p28.1]) rfl ?_
  refine Ok_ld (l := xs) rfl rfl (fun y29 hy29 => ?_)
  refine Ok_blk 4 (pc2 := 361) (lo2 := [some (.ref (mBase + 5)), some (.ref 0), some (.ref 115), some (.int x3)]) (st2 := [.int (x3 + 2), .ref (mBase + 5), .int y29, .ref 115, .int p28.1]) rfl ?_
  refine Ok_ld (l := xs) rfl rfl (fun y30 hy30 => ?_)
  refine Ok_call (y := 170) (as := [.ref 115, .int y29, .int y30]) (rest := [.int p28.1]) (w := fun p31 => some (.int p31.1)) (h1 := fun p31 => HP p28.2 p31.2) rfl rfl (fun x hx => tm_R_outer N (d + 12) xs p28.2 r y29 y30 x hx) (fun p31 hp31 => ?_)
  refine Ok_blk 1 (pc2 := (if p28.1 = p31.1 then 1787 else 368)) (lo2 := [some (.ref (mBase + 5)), some (.ref 0), some (.ref 115), some (.int x3)]) (st2 := []) rfl ?_
  refine Ok_if (fun h32 => ?_) (fun h32 => ?_)
  · refine Ok_drop (lo0 := [some (.ref (mBase + 5)), some (.ref 0), some (.ref 115), some (.int x3)]) ⟨Or.inr rfl, Or.inr rfl, Or.inr rfl, Or.inr rfl, trivial⟩ ?_
    exact t_Law_p1787 N d xs kb18 hb18 p28.2 p31.2 x3
  · refine Ok_blk 1 (pc2 := 369) (lo2 := [some (.ref (mBase + 5)), some (.ref 0), some (.ref 115), some (.int x3)]) (st2 := [.int 0]) rfl ?_
    exact Ok_rez (Or.inl rfl) rfl rfl
set_option maxHeartbeats 8000000 in
set_option maxRecDepth 100000 in
theorem t_Law_p411 (N d : Nat) (xs : List Int32) (kb18 : St → St → Int32 → Option (Int32 × St × St)) (hb18 : ∀ (c : St) (r : St) (x3 : Int32), Ok (mBig (mRoL xs) (d + 15)) (mRoL xs) 2 mK264 (fun p : Int32 × St × St => (some (.int p.1), HP p.2.1 p.2.2)) (kb18 c r x3) 18 [some (.ref (mBase + 5)), some (.ref 0), some (.ref 115), some (.int x3)] [] (HP c r)) (c : St) (r : St) (x3 : Int32) (s0 : Int32) (s2 : Int32) (s3 : Int32) : Ok (mBig (mRoL xs) (d + 15)) (mRoL xs) 2 mK264 (fun p : Int32 × St × St => (some (.int p.1), HP p.2.1 p.2.2)) (Law_p411 N xs kb18 c r x3 s0 s2 s3) 411 [some (.ref (mBase + 5)), some (.ref 0), some (.ref 115), some (.int x3)] [.int s3, .int s2, .ref 115, .int s0] (HP c r) := by
  unfold Law_p411
  refine Ok_call (y := 171) (as := [.ref 115, .int s2, .int s3]) (rest := [.int s0]) (w := fun p41 => some (.int p41.1)) (h1 := fun p41 => HP c p41.2) rfl rfl (fun x hx => tm_R_pipe N (d + 12) xs c r s2 s3 x hx) (fun p41 hp41 => ?_)
  refine Ok_blk 1 (pc2 := (if s0 = p41.1 then 1787 else 417)) (lo2 := [some (.ref (mBase + 5)), some (.ref 0), some (.ref 115), some (.int x3)]) (st2 := []) rfl ?_
  refine Ok_if (fun h42 => ?_) (fun h42 => ?_)
  · refine Ok_drop (lo0 := [some (.ref (mBase + 5)), some (.ref 0), some (.ref 115), some (.int x3)]) ⟨Or.inr rfl, Or.inr rfl, Or.inr rfl, Or.inr rfl, trivial⟩ ?_
    exact t_Law_p1787 N d xs kb18 hb18 c p41.2 x3
  · refine Ok_blk 1 (pc2 := 418) (lo2 := [some (.ref (mBase + 5)), some (.ref 0), some (.ref 115), some (.int x3)]) (st2 := [.int 0]) rfl ?_
    exact Ok_rez (Or.inl rfl) rfl rfl
set_option maxHeartbeats 8000000 in
set_option maxRecDepth 100000 in
theorem t_Law_p389 (N d : Nat) (xs : List Int32) (kb18 : St → St → Int32 → Option (Int32 × St × St)) (hb18 : ∀ (c : St) (r : St) (x3 : Int32), Ok (mBig (mRoL xs) (d + 15)) (mRoL xs) 2 mK264 (fun p : Int32 × St × St => (some (.int p.1), HP p.2.1 p.2.2)) (kb18 c r x3) 18 [some (.ref (mBase + 5)), some (.ref 0), some (.ref 115), some (.int x3)] [] (HP c r)) (c : St) (r : St) (x3 : Int32) (s1 : Int32) (s2 : Int32) : Ok (mBig (mRoL xs) (d + 15)) (mRoL xs) 2 mK264 (fun p : Int32 × St × St => (some (.int p.1), HP p.2.1 p.2.2)) (Law_p389 N xs kb18 c r x3 s1 s2) 389 [some (.ref (mBase + 5)), some (.ref 0), some (.ref 115), some (.int x3)] [.int s2, .int s1, .ref 0] (HP c r) := by
  unfold Law_p389
  refine Ok_call (y := 112) (as := [.ref 0, .int s1, .int s2]) (rest := []) (w := fun p37 => some (.int p37.1)) (h1 := fun p37 => HP p37.2 r) rfl rfl (fun x hx => tm_C_pipe N (d + 12) xs c r s1 s2 x hx) (fun p37 hp37 => ?_)
  refine Ok_blk 5 (pc2 := 397) (lo2 := [some (.ref (mBase + 5)), some (.ref 0), some (.ref 115), some (.int x3)]) (st2 := [.int (x3 + 1), .ref (mBase + 5), .ref 115, .int p37.1]) rfl ?_
  refine Ok_ld (l := xs) rfl rfl (fun y38 hy38 => ?_)
  refine Ok_blk 4 (pc2 := 402) (lo2 := [some (.ref (mBase + 5)), some (.ref 0), some (.ref 115), some (.int x3)]) (st2 := [.int (x3 + 2), .ref (mBase + 5), .int y38, .ref 115, .int p37.1]) rfl ?_
  refine Ok_ld (l := xs) rfl rfl (fun y39 hy39 => ?_)
  refine Ok_blk 1 (pc2 := (if y39 = 0 then 410 else 406)) (lo2 := [some (.ref (mBase + 5)), some (.ref 0), some (.ref 115), some (.int x3)]) (st2 := [.int y38, .ref 115, .int p37.1]) rfl ?_
  refine Ok_if (fun h40 => ?_) (fun h40 => ?_)
  · refine Ok_blk 1 (pc2 := 411) (lo2 := [some (.ref (mBase + 5)), some (.ref 0), some (.ref 115), some (.int x3)]) (st2 := [.int 0, .int y38, .ref 115, .int p37.1]) rfl ?_
    refine Ok_drop (lo0 := [some (.ref (mBase + 5)), some (.ref 0), some (.ref 115), some (.int x3)]) ⟨Or.inr rfl, Or.inr rfl, Or.inr rfl, Or.inr rfl, trivial⟩ ?_
    exact t_Law_p411 N d xs kb18 hb18 p37.2 r x3 p37.1 y38 0
  · refine Ok_blk 2 (pc2 := 411) (lo2 := [some (.ref (mBase + 5)), some (.ref 0), some (.ref 115), some (.int x3)]) (st2 := [.int 1, .int y38, .ref 115, .int p37.1]) rfl ?_
    refine Ok_drop (lo0 := [some (.ref (mBase + 5)), some (.ref 0), some (.ref 115), some (.int x3)]) ⟨Or.inr rfl, Or.inr rfl, Or.inr rfl, Or.inr rfl, trivial⟩ ?_
    exact t_Law_p411 N d xs kb18 hb18 p37.2 r x3 p37.1 y38 1
set_option maxHeartbeats 8000000 in
set_option maxRecDepth 100000 in
theorem t_Law_p370 (N d : Nat) (xs : List Int32) (kb18 : St → St → Int32 → Option (Int32 × St × St)) (hb18 : ∀ (c : St) (r : St) (x3 : Int32), Ok (mBig (mRoL xs) (d + 15)) (mRoL xs) 2 mK264 (fun p : Int32 × St × St => (some (.int p.1), HP p.2.1 p.2.2)) (kb18 c r x3) 18 [some (.ref (mBase + 5)), some (.ref 0), some (.ref 115), some (.int x3)] [] (HP c r)) (c : St) (r : St) (x3 : Int32) : Ok (mBig (mRoL xs) (d + 15)) (mRoL xs) 2 mK264 (fun p : Int32 × St × St => (some (.int p.1), HP p.2.1 p.2.2)) (Law_p370 N xs kb18 c r x3) 370 [some (.ref (mBase + 5)), some (.ref 0), some (.ref 115), some (.int x3)] [] (HP c r) := by
  unfold Law_p370
  refine Ok_blk 5 (pc2 := 375) (lo2 := [some (.ref (mBase + 5)), some (.ref 0), some (.ref 115), some (.int x3)]) (st2 := [.int (x3 + 1), .ref (mBase + 5), .ref 0]) rfl ?_
  refine Ok_ld (l := xs) rfl rfl (fun y34 hy34 => ?_)
  refine Ok_blk 4 (pc2 := 380) (lo2 := [some (.ref (mBase + 5)), some (.ref 0), some (.ref 115), some (.int x3)]) (st2 := [.int (x3 + 2), .ref (mBase + 5), .int y34, .ref 0]) rfl ?_
  refine Ok_ld (l := xs) rfl rfl (fun y35 hy35 => ?_)
  refine Ok_blk 1 (pc2 := (if y35 = 0 then 388 else 384)) (lo2 := [some (.ref (mBase + 5)), some (.ref 0), some (.ref 115), some (.int x3)]) (st2 := [.int y34, .ref 0]) rfl ?_
  refine Ok_if (fun h36 => ?_) (fun h36 => ?_)
  · refine Ok_blk 1 (pc2 := 389) (lo2 := [some (.ref (mBase + 5)), some (.ref 0), some (.ref 115), some (.int x3)]) (st2 := [.int 0, .int y34, .ref 0]) rfl ?_
    refine Ok_drop (lo0 := [some (.ref (mBase + 5)), some (.ref 0), some (.ref 115), some (.int x3)]) ⟨Or.inr rfl, Or.inr rfl, Or.inr rfl, Or.inr rfl, trivial⟩ ?_
    exact t_Law_p389 N d xs kb18 hb18 c r x3 y34 0
  · refine Ok_blk 2 (pc2 := 389) (lo2 := [some (.ref (mBase + 5)), some (.ref 0), some (.ref 115), some (.int x3)]) (st2 := [.int 1, .int y34, .ref 0]) rfl ?_
    refine Ok_drop (lo0 := [some (.ref (mBase + 5)), some (.ref 0), some (.ref 115), some (.int x3)]) ⟨Or.inr rfl, Or.inr rfl, Or.inr rfl, Or.inr rfl, trivial⟩ ?_
    exact t_Law_p389 N d xs kb18 hb18 c r x3 y34 1
set_option maxHeartbeats 8000000 in
set_option maxRecDepth 100000 in
theorem t_Law_p419 (N d : Nat) (xs : List Int32) (kb18 : St → St → Int32 → Option (Int32 × St × St)) (hb18 : ∀ (c : St) (r : St) (x3 : Int32), Ok (mBig (mRoL xs) (d + 15)) (mRoL xs) 2 mK264 (fun p : Int32 × St × St => (some (.int p.1), HP p.2.1 p.2.2)) (kb18 c r x3) 18 [some (.ref (mBase + 5)), some (.ref 0), some (.ref 115), some (.int x3)] [] (HP c r)) (c : St) (r : St) (x3 : Int32) : Ok (mBig (mRoL xs) (d + 15)) (mRoL xs) 2 mK264 (fun p : Int32 × St × St => (some (.int p.1), HP p.2.1 p.2.2)) (Law_p419 N xs kb18 c r x3) 419 [some (.ref (mBase + 5)), some (.ref 0), some (.ref 115), some (.int x3)] [] (HP c r) := by
  unfold Law_p419
  refine Ok_blk 5 (pc2 := 424) (lo2 := [some (.ref (mBase + 5)), some (.ref 0), some (.ref 115), some (.int x3)]) (st2 := [.int (x3 + 1), .ref (mBase + 5), .ref 0]) rfl ?_
  refine Ok_ld (l := xs) rfl rfl (fun y44 hy44 => ?_)
  refine Ok_blk 4 (pc2 := 429) (lo2 := [some (.ref (mBase + 5)), some (.ref 0), some (.ref 115), some (.int x3)]) (st2 := [.int (x3 + 2), .ref (mBase + 5), .int y44, .ref 0]) rfl ?_
  refine Ok_ld (l := xs) rfl rfl (fun y45 hy45 => ?_)
  refine Ok_call (y := 113) (as := [.ref 0, .int y44, .int y45]) (rest := []) (w := fun p46 => some (.int p46.1)) (h1 := fun p46 => HP p46.2 r) rfl rfl (fun x hx => tm_C_engine N (d + 13) xs c r y44 y45 x hx) (fun p46 hp46 => ?_)
  refine Ok_blk 5 (pc2 := 438) (lo2 := [some (.ref (mBase + 5)), some (.ref 0), some (.ref 115), some (.int x3)]) (st2 := [.int (x3 + 1), .ref (mBase + 5), .ref 115, .int p46.1]) rfl ?_
  refine Ok_ld (l := xs) rfl rfl (fun y47 hy47 => ?_)
  refine Ok_blk 4 (pc2 := 443) (lo2 := [some (.ref (mBase + 5)), some (.ref 0), some (.ref 115), some (.int x3)]) (st2 := [.int (x3 + 2), .ref (mBase + 5), .int y47, .ref 115, .int p46.1]) rfl ?_
  refine Ok_ld (l := xs) rfl rfl (fun y48 hy48 => ?_)
  refine Ok_call (y := 172) (as := [.ref 115, .int y47, .int y48]) (rest := [.int p46.1]) (w := fun p49 => some (.int p49.1)) (h1 := fun p49 => HP p46.2 p49.2) rfl rfl (fun x hx => tm_R_engine N (d + 13) xs p46.2 r y47 y48 x hx) (fun p49 hp49 => ?_)
  refine Ok_blk 1 (pc2 := (if p46.1 = p49.1 then 1787 else 450)) (lo2 := [some (.ref (mBase + 5)), some (.ref 0), some (.ref 115), some (.int x3)]) (st2 := []) rfl ?_
  refine Ok_if (fun h50 => ?_) (fun h50 => ?_)
  · refine Ok_drop (lo0 := [some (.ref (mBase + 5)), some (.ref 0), some (.ref 115), some (.int x3)]) ⟨Or.inr rfl, Or.inr rfl, Or.inr rfl, Or.inr rfl, trivial⟩ ?_
    exact t_Law_p1787 N d xs kb18 hb18 p46.2 p49.2 x3
  · refine Ok_blk 1 (pc2 := 451) (lo2 := [some (.ref (mBase + 5)), some (.ref 0), some (.ref 115), some (.int x3)]) (st2 := [.int 0]) rfl ?_
    exact Ok_rez (Or.inl rfl) rfl rfl
set_option maxHeartbeats 8000000 in
set_option maxRecDepth 100000 in
theorem t_Law_p452 (N d : Nat) (xs : List Int32) (kb18 : St → St → Int32 → Option (Int32 × St × St)) (hb18 : ∀ (c : St) (r : St) (x3 : Int32), Ok (mBig (mRoL xs) (d + 15)) (mRoL xs) 2 mK264 (fun p : Int32 × St × St => (some (.int p.1), HP p.2.1 p.2.2)) (kb18 c r x3) 18 [some (.ref (mBase + 5)), some (.ref 0), some (.ref 115), some (.int x3)] [] (HP c r)) (c : St) (r : St) (x3 : Int32) : Ok (mBig (mRoL xs) (d + 15)) (mRoL xs) 2 mK264 (fun p : Int32 × St × St => (some (.int p.1), HP p.2.1 p.2.2)) (Law_p452 N xs kb18 c r x3) 452 [some (.ref (mBase + 5)), some (.ref 0), some (.ref 115), some (.int x3)] [] (HP c r) := by
  unfold Law_p452
  refine Ok_blk 5 (pc2 := 457) (lo2 := [some (.ref (mBase + 5)), some (.ref 0), some (.ref 115), some (.int x3)]) (st2 := [.int (x3 + 1), .ref (mBase + 5), .ref 0]) rfl ?_
  refine Ok_ld (l := xs) rfl rfl (fun y52 hy52 => ?_)
  refine Ok_call (y := 114) (as := [.ref 0, .int y52]) (rest := []) (w := fun p53 => some (.int p53.1)) (h1 := fun p53 => HP p53.2 r) rfl rfl (fun x hx => tm_C_breaks N (d + 13) xs c r y52 x hx) (fun p53 hp53 => ?_)
  refine Ok_blk 5 (pc2 := 466) (lo2 := [some (.ref (mBase + 5)), some (.ref 0), some (.ref 115), some (.int x3)]) (st2 := [.int (x3 + 1), .ref (mBase + 5), .ref 115, .int p53.1]) rfl ?_
  refine Ok_ld (l := xs) rfl rfl (fun y54 hy54 => ?_)
  refine Ok_call (y := 173) (as := [.ref 115, .int y54]) (rest := [.int p53.1]) (w := fun p55 => some (.int p55.1)) (h1 := fun p55 => HP p53.2 p55.2) rfl rfl (fun x hx => tm_R_breaks N (d + 14) xs p53.2 r y54 x hx) (fun p55 hp55 => ?_)
  refine Ok_blk 1 (pc2 := (if p53.1 = p55.1 then 1787 else 473)) (lo2 := [some (.ref (mBase + 5)), some (.ref 0), some (.ref 115), some (.int x3)]) (st2 := []) rfl ?_
  refine Ok_if (fun h56 => ?_) (fun h56 => ?_)
  · refine Ok_drop (lo0 := [some (.ref (mBase + 5)), some (.ref 0), some (.ref 115), some (.int x3)]) ⟨Or.inr rfl, Or.inr rfl, Or.inr rfl, Or.inr rfl, trivial⟩ ?_
    exact t_Law_p1787 N d xs kb18 hb18 p53.2 p55.2 x3
  · refine Ok_blk 1 (pc2 := 474) (lo2 := [some (.ref (mBase + 5)), some (.ref 0), some (.ref 115), some (.int x3)]) (st2 := [.int 0]) rfl ?_
    exact Ok_rez (Or.inl rfl) rfl rfl
set_option maxHeartbeats 8000000 in
set_option maxRecDepth 100000 in
theorem t_Law_p475 (N d : Nat) (xs : List Int32) (kb18 : St → St → Int32 → Option (Int32 × St × St)) (hb18 : ∀ (c : St) (r : St) (x3 : Int32), Ok (mBig (mRoL xs) (d + 15)) (mRoL xs) 2 mK264 (fun p : Int32 × St × St => (some (.int p.1), HP p.2.1 p.2.2)) (kb18 c r x3) 18 [some (.ref (mBase + 5)), some (.ref 0), some (.ref 115), some (.int x3)] [] (HP c r)) (c : St) (r : St) (x3 : Int32) : Ok (mBig (mRoL xs) (d + 15)) (mRoL xs) 2 mK264 (fun p : Int32 × St × St => (some (.int p.1), HP p.2.1 p.2.2)) (Law_p475 N xs kb18 c r x3) 475 [some (.ref (mBase + 5)), some (.ref 0), some (.ref 115), some (.int x3)] [] (HP c r) := by
  unfold Law_p475
  refine Ok_blk 5 (pc2 := 480) (lo2 := [some (.ref (mBase + 5)), some (.ref 0), some (.ref 115), some (.int x3)]) (st2 := [.int (x3 + 1), .ref (mBase + 5), .ref 0]) rfl ?_
  refine Ok_ld (l := xs) rfl rfl (fun y58 hy58 => ?_)
  refine Ok_call (y := 115) (as := [.ref 0, .int y58]) (rest := []) (w := fun p59 => some (.int p59)) (h1 := fun p59 => HP c r) rfl rfl (fun x hx => tm_C_sea N (d + 13) xs c r y58 x hx) (fun p59 hp59 => ?_)
  refine Ok_blk 5 (pc2 := 489) (lo2 := [some (.ref (mBase + 5)), some (.ref 0), some (.ref 115), some (.int x3)]) (st2 := [.int (x3 + 1), .ref (mBase + 5), .ref 115, .int p59]) rfl ?_
  refine Ok_ld (l := xs) rfl rfl (fun y60 hy60 => ?_)
  refine Ok_call (y := 175) (as := [.ref 115, .int y60]) (rest := [.int p59]) (w := fun p61 => some (.int p61)) (h1 := fun p61 => HP c r) rfl rfl (fun x hx => tm_R_sea N (d + 13) xs c r y60 x hx) (fun p61 hp61 => ?_)
  refine Ok_blk 1 (pc2 := (if p59 = p61 then 1787 else 496)) (lo2 := [some (.ref (mBase + 5)), some (.ref 0), some (.ref 115), some (.int x3)]) (st2 := []) rfl ?_
  refine Ok_if (fun h62 => ?_) (fun h62 => ?_)
  · refine Ok_drop (lo0 := [some (.ref (mBase + 5)), some (.ref 0), some (.ref 115), some (.int x3)]) ⟨Or.inr rfl, Or.inr rfl, Or.inr rfl, Or.inr rfl, trivial⟩ ?_
    exact t_Law_p1787 N d xs kb18 hb18 c r x3
  · refine Ok_blk 1 (pc2 := 497) (lo2 := [some (.ref (mBase + 5)), some (.ref 0), some (.ref 115), some (.int x3)]) (st2 := [.int 0]) rfl ?_
    exact Ok_rez (Or.inl rfl) rfl rfl
set_option maxHeartbeats 8000000 in
set_option maxRecDepth 100000 in
theorem t_Law_p498 (N d : Nat) (xs : List Int32) (kb18 : St → St → Int32 → Option (Int32 × St × St)) (hb18 : ∀ (c : St) (r : St) (x3 : Int32), Ok (mBig (mRoL xs) (d + 15)) (mRoL xs) 2 mK264 (fun p : Int32 × St × St => (some (.int p.1), HP p.2.1 p.2.2)) (kb18 c r x3) 18 [some (.ref (mBase + 5)), some (.ref 0), some (.ref 115), some (.int x3)] [] (HP c r)) (c : St) (r : St) (x3 : Int32) : Ok (mBig (mRoL xs) (d + 15)) (mRoL xs) 2 mK264 (fun p : Int32 × St × St => (some (.int p.1), HP p.2.1 p.2.2)) (Law_p498 N xs kb18 c r x3) 498 [some (.ref (mBase + 5)), some (.ref 0), some (.ref 115), some (.int x3)] [] (HP c r) := by
  unfold Law_p498
  refine Ok_blk 5 (pc2 := 503) (lo2 := [some (.ref (mBase + 5)), some (.ref 0), some (.ref 115), some (.int x3)]) (st2 := [.int (x3 + 1), .ref (mBase + 5), .ref 0]) rfl ?_
  refine Ok_ld (l := xs) rfl rfl (fun y64 hy64 => ?_)
  refine Ok_call (y := 116) (as := [.ref 0, .int y64]) (rest := []) (w := fun p65 => some (.int p65.1)) (h1 := fun p65 => HP p65.2 r) rfl rfl (fun x hx => tm_C_hours N (d + 10) xs c r y64 x hx) (fun p65 hp65 => ?_)
  refine Ok_blk 5 (pc2 := 512) (lo2 := [some (.ref (mBase + 5)), some (.ref 0), some (.ref 115), some (.int x3)]) (st2 := [.int (x3 + 1), .ref (mBase + 5), .ref 115, .int p65.1]) rfl ?_
  refine Ok_ld (l := xs) rfl rfl (fun y66 hy66 => ?_)
  refine Ok_call (y := 181) (as := [.ref 115, .int y66]) (rest := [.int p65.1]) (w := fun p67 => some (.int p67.1)) (h1 := fun p67 => HP p65.2 p67.2) rfl rfl (fun x hx => tm_R_hours N (d + 12) xs p65.2 r y66 x hx) (fun p67 hp67 => ?_)
  refine Ok_blk 1 (pc2 := (if p65.1 = p67.1 then 1787 else 519)) (lo2 := [some (.ref (mBase + 5)), some (.ref 0), some (.ref 115), some (.int x3)]) (st2 := []) rfl ?_
  refine Ok_if (fun h68 => ?_) (fun h68 => ?_)
  · refine Ok_drop (lo0 := [some (.ref (mBase + 5)), some (.ref 0), some (.ref 115), some (.int x3)]) ⟨Or.inr rfl, Or.inr rfl, Or.inr rfl, Or.inr rfl, trivial⟩ ?_
    exact t_Law_p1787 N d xs kb18 hb18 p65.2 p67.2 x3
  · refine Ok_blk 1 (pc2 := 520) (lo2 := [some (.ref (mBase + 5)), some (.ref 0), some (.ref 115), some (.int x3)]) (st2 := [.int 0]) rfl ?_
    exact Ok_rez (Or.inl rfl) rfl rfl
set_option maxHeartbeats 8000000 in
set_option maxRecDepth 100000 in
theorem t_Law_p521 (N d : Nat) (xs : List Int32) (kb18 : St → St → Int32 → Option (Int32 × St × St)) (hb18 : ∀ (c : St) (r : St) (x3 : Int32), Ok (mBig (mRoL xs) (d + 15)) (mRoL xs) 2 mK264 (fun p : Int32 × St × St => (some (.int p.1), HP p.2.1 p.2.2)) (kb18 c r x3) 18 [some (.ref (mBase + 5)), some (.ref 0), some (.ref 115), some (.int x3)] [] (HP c r)) (c : St) (r : St) (x3 : Int32) : Ok (mBig (mRoL xs) (d + 15)) (mRoL xs) 2 mK264 (fun p : Int32 × St × St => (some (.int p.1), HP p.2.1 p.2.2)) (Law_p521 N xs kb18 c r x3) 521 [some (.ref (mBase + 5)), some (.ref 0), some (.ref 115), some (.int x3)] [] (HP c r) := by
  unfold Law_p521
  refine Ok_blk 5 (pc2 := 526) (lo2 := [some (.ref (mBase + 5)), some (.ref 0), some (.ref 115), some (.int x3)]) (st2 := [.int (x3 + 1), .ref (mBase + 5), .ref 0]) rfl ?_
  refine Ok_ld (l := xs) rfl rfl (fun y70 hy70 => ?_)
  refine Ok_blk 4 (pc2 := 531) (lo2 := [some (.ref (mBase + 5)), some (.ref 0), some (.ref 115), some (.int x3)]) (st2 := [.int (x3 + 2), .ref (mBase + 5), .int y70, .ref 0]) rfl ?_
  refine Ok_ld (l := xs) rfl rfl (fun y71 hy71 => ?_)
  refine Ok_call (y := 117) (as := [.ref 0, .int y70, .int y71]) (rest := []) (w := fun p72 => some (.int p72.1)) (h1 := fun p72 => HP p72.2 r) rfl rfl (fun x hx => tm_C_first N (d + 11) xs c r y70 y71 x hx) (fun p72 hp72 => ?_)
  refine Ok_blk 5 (pc2 := 540) (lo2 := [some (.ref (mBase + 5)), some (.ref 0), some (.ref 115), some (.int x3)]) (st2 := [.int (x3 + 1), .ref (mBase + 5), .ref 115, .int p72.1]) rfl ?_
  refine Ok_ld (l := xs) rfl rfl (fun y73 hy73 => ?_)
  refine Ok_blk 4 (pc2 := 545) (lo2 := [some (.ref (mBase + 5)), some (.ref 0), some (.ref 115), some (.int x3)]) (st2 := [.int (x3 + 2), .ref (mBase + 5), .int y73, .ref 115, .int p72.1]) rfl ?_
  refine Ok_ld (l := xs) rfl rfl (fun y74 hy74 => ?_)
  refine Ok_call (y := 183) (as := [.ref 115, .int y73, .int y74]) (rest := [.int p72.1]) (w := fun p75 => some (.int p75.1)) (h1 := fun p75 => HP p72.2 p75.2) rfl rfl (fun x hx => tm_R_first N (d + 12) xs p72.2 r y73 y74 x hx) (fun p75 hp75 => ?_)
  refine Ok_blk 1 (pc2 := (if p72.1 = p75.1 then 1787 else 552)) (lo2 := [some (.ref (mBase + 5)), some (.ref 0), some (.ref 115), some (.int x3)]) (st2 := []) rfl ?_
  refine Ok_if (fun h76 => ?_) (fun h76 => ?_)
  · refine Ok_drop (lo0 := [some (.ref (mBase + 5)), some (.ref 0), some (.ref 115), some (.int x3)]) ⟨Or.inr rfl, Or.inr rfl, Or.inr rfl, Or.inr rfl, trivial⟩ ?_
    exact t_Law_p1787 N d xs kb18 hb18 p72.2 p75.2 x3
  · refine Ok_blk 1 (pc2 := 553) (lo2 := [some (.ref (mBase + 5)), some (.ref 0), some (.ref 115), some (.int x3)]) (st2 := [.int 0]) rfl ?_
    exact Ok_rez (Or.inl rfl) rfl rfl
set_option maxHeartbeats 8000000 in
set_option maxRecDepth 100000 in
theorem t_Law_p554 (N d : Nat) (xs : List Int32) (kb18 : St → St → Int32 → Option (Int32 × St × St)) (hb18 : ∀ (c : St) (r : St) (x3 : Int32), Ok (mBig (mRoL xs) (d + 15)) (mRoL xs) 2 mK264 (fun p : Int32 × St × St => (some (.int p.1), HP p.2.1 p.2.2)) (kb18 c r x3) 18 [some (.ref (mBase + 5)), some (.ref 0), some (.ref 115), some (.int x3)] [] (HP c r)) (c : St) (r : St) (x3 : Int32) : Ok (mBig (mRoL xs) (d + 15)) (mRoL xs) 2 mK264 (fun p : Int32 × St × St => (some (.int p.1), HP p.2.1 p.2.2)) (Law_p554 N xs kb18 c r x3) 554 [some (.ref (mBase + 5)), some (.ref 0), some (.ref 115), some (.int x3)] [] (HP c r) := by
  unfold Law_p554
  refine Ok_blk 5 (pc2 := 559) (lo2 := [some (.ref (mBase + 5)), some (.ref 0), some (.ref 115), some (.int x3)]) (st2 := [.int (x3 + 1), .ref (mBase + 5), .ref 0]) rfl ?_
  refine Ok_ld (l := xs) rfl rfl (fun y78 hy78 => ?_)
  refine Ok_blk 4 (pc2 := 564) (lo2 := [some (.ref (mBase + 5)), some (.ref 0), some (.ref 115), some (.int x3)]) (st2 := [.int (x3 + 2), .ref (mBase + 5), .int y78, .ref 0]) rfl ?_
  refine Ok_ld (l := xs) rfl rfl (fun y79 hy79 => ?_)
  refine Ok_call (y := 118) (as := [.ref 0, .int y78, .int y79]) (rest := []) (w := fun p80 => some (.int p80.1)) (h1 := fun p80 => HP p80.2 r) rfl rfl (fun x hx => tm_C_lot N (d + 12) xs c r y78 y79 x hx) (fun p80 hp80 => ?_)
  refine Ok_blk 5 (pc2 := 573) (lo2 := [some (.ref (mBase + 5)), some (.ref 0), some (.ref 115), some (.int x3)]) (st2 := [.int (x3 + 1), .ref (mBase + 5), .ref 115, .int p80.1]) rfl ?_
  refine Ok_ld (l := xs) rfl rfl (fun y81 hy81 => ?_)
  refine Ok_blk 4 (pc2 := 578) (lo2 := [some (.ref (mBase + 5)), some (.ref 0), some (.ref 115), some (.int x3)]) (st2 := [.int (x3 + 2), .ref (mBase + 5), .int y81, .ref 115, .int p80.1]) rfl ?_
  refine Ok_ld (l := xs) rfl rfl (fun y82 hy82 => ?_)
  refine Ok_call (y := 185) (as := [.ref 115, .int y81, .int y82]) (rest := [.int p80.1]) (w := fun p83 => some (.int p83.1)) (h1 := fun p83 => HP p80.2 p83.2) rfl rfl (fun x hx => tm_R_lot N (d + 12) xs p80.2 r y81 y82 x hx) (fun p83 hp83 => ?_)
  refine Ok_blk 1 (pc2 := (if p80.1 = p83.1 then 1787 else 585)) (lo2 := [some (.ref (mBase + 5)), some (.ref 0), some (.ref 115), some (.int x3)]) (st2 := []) rfl ?_
  refine Ok_if (fun h84 => ?_) (fun h84 => ?_)
  · refine Ok_drop (lo0 := [some (.ref (mBase + 5)), some (.ref 0), some (.ref 115), some (.int x3)]) ⟨Or.inr rfl, Or.inr rfl, Or.inr rfl, Or.inr rfl, trivial⟩ ?_
    exact t_Law_p1787 N d xs kb18 hb18 p80.2 p83.2 x3
  · refine Ok_blk 1 (pc2 := 586) (lo2 := [some (.ref (mBase + 5)), some (.ref 0), some (.ref 115), some (.int x3)]) (st2 := [.int 0]) rfl ?_
    exact Ok_rez (Or.inl rfl) rfl rfl
set_option maxHeartbeats 8000000 in
set_option maxRecDepth 100000 in
theorem t_Law_p587 (N d : Nat) (xs : List Int32) (kb18 : St → St → Int32 → Option (Int32 × St × St)) (hb18 : ∀ (c : St) (r : St) (x3 : Int32), Ok (mBig (mRoL xs) (d + 15)) (mRoL xs) 2 mK264 (fun p : Int32 × St × St => (some (.int p.1), HP p.2.1 p.2.2)) (kb18 c r x3) 18 [some (.ref (mBase + 5)), some (.ref 0), some (.ref 115), some (.int x3)] [] (HP c r)) (c : St) (r : St) (x3 : Int32) : Ok (mBig (mRoL xs) (d + 15)) (mRoL xs) 2 mK264 (fun p : Int32 × St × St => (some (.int p.1), HP p.2.1 p.2.2)) (Law_p587 N xs kb18 c r x3) 587 [some (.ref (mBase + 5)), some (.ref 0), some (.ref 115), some (.int x3)] [] (HP c r) := by
  unfold Law_p587
  refine Ok_blk 5 (pc2 := 592) (lo2 := [some (.ref (mBase + 5)), some (.ref 0), some (.ref 115), some (.int x3)]) (st2 := [.int (x3 + 1), .ref (mBase + 5), .ref 0]) rfl ?_
  refine Ok_ld (l := xs) rfl rfl (fun y86 hy86 => ?_)
  refine Ok_blk 4 (pc2 := 597) (lo2 := [some (.ref (mBase + 5)), some (.ref 0), some (.ref 115), some (.int x3)]) (st2 := [.int (x3 + 2), .ref (mBase + 5), .int y86, .ref 0]) rfl ?_
  refine Ok_ld (l := xs) rfl rfl (fun y87 hy87 => ?_)
  refine Ok_call (y := 119) (as := [.ref 0, .int y86, .int y87]) (rest := []) (w := fun p88 => some (.int p88.1)) (h1 := fun p88 => HP p88.2 r) rfl rfl (fun x hx => tm_C_lay N (d + 12) xs c r y86 y87 x hx) (fun p88 hp88 => ?_)
  refine Ok_blk 5 (pc2 := 606) (lo2 := [some (.ref (mBase + 5)), some (.ref 0), some (.ref 115), some (.int x3)]) (st2 := [.int (x3 + 1), .ref (mBase + 5), .ref 115, .int p88.1]) rfl ?_
  refine Ok_ld (l := xs) rfl rfl (fun y89 hy89 => ?_)
  refine Ok_blk 4 (pc2 := 611) (lo2 := [some (.ref (mBase + 5)), some (.ref 0), some (.ref 115), some (.int x3)]) (st2 := [.int (x3 + 2), .ref (mBase + 5), .int y89, .ref 115, .int p88.1]) rfl ?_
  refine Ok_ld (l := xs) rfl rfl (fun y90 hy90 => ?_)
  refine Ok_call (y := 186) (as := [.ref 115, .int y89, .int y90]) (rest := [.int p88.1]) (w := fun p91 => some (.int p91.1)) (h1 := fun p91 => HP p88.2 p91.2) rfl rfl (fun x hx => tm_R_lay N (d + 12) xs p88.2 r y89 y90 x hx) (fun p91 hp91 => ?_)
  refine Ok_blk 1 (pc2 := (if p88.1 = p91.1 then 1787 else 618)) (lo2 := [some (.ref (mBase + 5)), some (.ref 0), some (.ref 115), some (.int x3)]) (st2 := []) rfl ?_
  refine Ok_if (fun h92 => ?_) (fun h92 => ?_)
  · refine Ok_drop (lo0 := [some (.ref (mBase + 5)), some (.ref 0), some (.ref 115), some (.int x3)]) ⟨Or.inr rfl, Or.inr rfl, Or.inr rfl, Or.inr rfl, trivial⟩ ?_
    exact t_Law_p1787 N d xs kb18 hb18 p88.2 p91.2 x3
  · refine Ok_blk 1 (pc2 := 619) (lo2 := [some (.ref (mBase + 5)), some (.ref 0), some (.ref 115), some (.int x3)]) (st2 := [.int 0]) rfl ?_
    exact Ok_rez (Or.inl rfl) rfl rfl
set_option maxHeartbeats 8000000 in
set_option maxRecDepth 100000 in
theorem t_Law_p620 (N d : Nat) (xs : List Int32) (kb18 : St → St → Int32 → Option (Int32 × St × St)) (hb18 : ∀ (c : St) (r : St) (x3 : Int32), Ok (mBig (mRoL xs) (d + 15)) (mRoL xs) 2 mK264 (fun p : Int32 × St × St => (some (.int p.1), HP p.2.1 p.2.2)) (kb18 c r x3) 18 [some (.ref (mBase + 5)), some (.ref 0), some (.ref 115), some (.int x3)] [] (HP c r)) (c : St) (r : St) (x3 : Int32) : Ok (mBig (mRoL xs) (d + 15)) (mRoL xs) 2 mK264 (fun p : Int32 × St × St => (some (.int p.1), HP p.2.1 p.2.2)) (Law_p620 N xs kb18 c r x3) 620 [some (.ref (mBase + 5)), some (.ref 0), some (.ref 115), some (.int x3)] [] (HP c r) := by
  unfold Law_p620
  refine Ok_blk 5 (pc2 := 625) (lo2 := [some (.ref (mBase + 5)), some (.ref 0), some (.ref 115), some (.int x3)]) (st2 := [.int (x3 + 1), .ref (mBase + 5), .ref 0]) rfl ?_
  refine Ok_ld (l := xs) rfl rfl (fun y94 hy94 => ?_)
  refine Ok_blk 4 (pc2 := 630) (lo2 := [some (.ref (mBase + 5)), some (.ref 0), some (.ref 115), some (.int x3)]) (st2 := [.int (x3 + 2), .ref (mBase + 5), .int y94, .ref 0]) rfl ?_
  refine Ok_ld (l := xs) rfl rfl (fun y95 hy95 => ?_)
  refine Ok_call (y := 120) (as := [.ref 0, .int y94, .int y95]) (rest := []) (w := fun p96 => some (.int p96)) (h1 := fun p96 => HP c r) rfl rfl (fun x hx => tm_C_about N (d + 12) xs c r y94 y95 x hx) (fun p96 hp96 => ?_)
  refine Ok_blk 5 (pc2 := 639) (lo2 := [some (.ref (mBase + 5)), some (.ref 0), some (.ref 115), some (.int x3)]) (st2 := [.int (x3 + 1), .ref (mBase + 5), .ref 115, .int p96]) rfl ?_
  refine Ok_ld (l := xs) rfl rfl (fun y97 hy97 => ?_)
  refine Ok_blk 4 (pc2 := 644) (lo2 := [some (.ref (mBase + 5)), some (.ref 0), some (.ref 115), some (.int x3)]) (st2 := [.int (x3 + 2), .ref (mBase + 5), .int y97, .ref 115, .int p96]) rfl ?_
  refine Ok_ld (l := xs) rfl rfl (fun y98 hy98 => ?_)
  refine Ok_call (y := 189) (as := [.ref 115, .int y97, .int y98]) (rest := [.int p96]) (w := fun p99 => some (.int p99)) (h1 := fun p99 => HP c r) rfl rfl (fun x hx => tm_R_about N (d + 11) xs c r y97 y98 x hx) (fun p99 hp99 => ?_)
  refine Ok_blk 1 (pc2 := (if p96 = p99 then 1787 else 651)) (lo2 := [some (.ref (mBase + 5)), some (.ref 0), some (.ref 115), some (.int x3)]) (st2 := []) rfl ?_
  refine Ok_if (fun h100 => ?_) (fun h100 => ?_)
  · refine Ok_drop (lo0 := [some (.ref (mBase + 5)), some (.ref 0), some (.ref 115), some (.int x3)]) ⟨Or.inr rfl, Or.inr rfl, Or.inr rfl, Or.inr rfl, trivial⟩ ?_
    exact t_Law_p1787 N d xs kb18 hb18 c r x3
  · refine Ok_blk 1 (pc2 := 652) (lo2 := [some (.ref (mBase + 5)), some (.ref 0), some (.ref 115), some (.int x3)]) (st2 := [.int 0]) rfl ?_
    exact Ok_rez (Or.inl rfl) rfl rfl
set_option maxHeartbeats 8000000 in
set_option maxRecDepth 100000 in
theorem t_Law_p653 (N d : Nat) (xs : List Int32) (kb18 : St → St → Int32 → Option (Int32 × St × St)) (hb18 : ∀ (c : St) (r : St) (x3 : Int32), Ok (mBig (mRoL xs) (d + 15)) (mRoL xs) 2 mK264 (fun p : Int32 × St × St => (some (.int p.1), HP p.2.1 p.2.2)) (kb18 c r x3) 18 [some (.ref (mBase + 5)), some (.ref 0), some (.ref 115), some (.int x3)] [] (HP c r)) (c : St) (r : St) (x3 : Int32) : Ok (mBig (mRoL xs) (d + 15)) (mRoL xs) 2 mK264 (fun p : Int32 × St × St => (some (.int p.1), HP p.2.1 p.2.2)) (Law_p653 N xs kb18 c r x3) 653 [some (.ref (mBase + 5)), some (.ref 0), some (.ref 115), some (.int x3)] [] (HP c r) := by
  unfold Law_p653
  refine Ok_blk 5 (pc2 := 658) (lo2 := [some (.ref (mBase + 5)), some (.ref 0), some (.ref 115), some (.int x3)]) (st2 := [.int (x3 + 1), .ref (mBase + 5), .ref 0]) rfl ?_
  refine Ok_ld (l := xs) rfl rfl (fun y102 hy102 => ?_)
  refine Ok_blk 4 (pc2 := 663) (lo2 := [some (.ref (mBase + 5)), some (.ref 0), some (.ref 115), some (.int x3)]) (st2 := [.int (x3 + 2), .ref (mBase + 5), .int y102, .ref 0]) rfl ?_
  refine Ok_ld (l := xs) rfl rfl (fun y103 hy103 => ?_)
  refine Ok_call (y := 121) (as := [.ref 0, .int y102, .int y103]) (rest := []) (w := fun p104 => some (.int p104)) (h1 := fun p104 => HP c r) rfl rfl (fun x hx => tm_C_as N (d + 12) xs c r y102 y103 x hx) (fun p104 hp104 => ?_)
  refine Ok_blk 5 (pc2 := 672) (lo2 := [some (.ref (mBase + 5)), some (.ref 0), some (.ref 115), some (.int x3)]) (st2 := [.int (x3 + 1), .ref (mBase + 5), .ref 115, .int p104]) rfl ?_
  refine Ok_ld (l := xs) rfl rfl (fun y105 hy105 => ?_)
  refine Ok_blk 4 (pc2 := 677) (lo2 := [some (.ref (mBase + 5)), some (.ref 0), some (.ref 115), some (.int x3)]) (st2 := [.int (x3 + 2), .ref (mBase + 5), .int y105, .ref 115, .int p104]) rfl ?_
  refine Ok_ld (l := xs) rfl rfl (fun y106 hy106 => ?_)
  refine Ok_call (y := 190) (as := [.ref 115, .int y105, .int y106]) (rest := [.int p104]) (w := fun p107 => some (.int p107)) (h1 := fun p107 => HP c r) rfl rfl (fun x hx => tm_R_as N (d + 12) xs c r y105 y106 x hx) (fun p107 hp107 => ?_)
  refine Ok_blk 1 (pc2 := (if p104 = p107 then 1787 else 684)) (lo2 := [some (.ref (mBase + 5)), some (.ref 0), some (.ref 115), some (.int x3)]) (st2 := []) rfl ?_
  refine Ok_if (fun h108 => ?_) (fun h108 => ?_)
  · refine Ok_drop (lo0 := [some (.ref (mBase + 5)), some (.ref 0), some (.ref 115), some (.int x3)]) ⟨Or.inr rfl, Or.inr rfl, Or.inr rfl, Or.inr rfl, trivial⟩ ?_
    exact t_Law_p1787 N d xs kb18 hb18 c r x3
  · refine Ok_blk 1 (pc2 := 685) (lo2 := [some (.ref (mBase + 5)), some (.ref 0), some (.ref 115), some (.int x3)]) (st2 := [.int 0]) rfl ?_
    exact Ok_rez (Or.inl rfl) rfl rfl
set_option maxHeartbeats 8000000 in
set_option maxRecDepth 100000 in
theorem t_Law_p686 (N d : Nat) (xs : List Int32) (kb18 : St → St → Int32 → Option (Int32 × St × St)) (hb18 : ∀ (c : St) (r : St) (x3 : Int32), Ok (mBig (mRoL xs) (d + 15)) (mRoL xs) 2 mK264 (fun p : Int32 × St × St => (some (.int p.1), HP p.2.1 p.2.2)) (kb18 c r x3) 18 [some (.ref (mBase + 5)), some (.ref 0), some (.ref 115), some (.int x3)] [] (HP c r)) (c : St) (r : St) (x3 : Int32) : Ok (mBig (mRoL xs) (d + 15)) (mRoL xs) 2 mK264 (fun p : Int32 × St × St => (some (.int p.1), HP p.2.1 p.2.2)) (Law_p686 N xs kb18 c r x3) 686 [some (.ref (mBase + 5)), some (.ref 0), some (.ref 115), some (.int x3)] [] (HP c r) := by
  unfold Law_p686
  refine Ok_blk 5 (pc2 := 691) (lo2 := [some (.ref (mBase + 5)), some (.ref 0), some (.ref 115), some (.int x3)]) (st2 := [.int (x3 + 1), .ref (mBase + 5), .ref 0]) rfl ?_
  refine Ok_ld (l := xs) rfl rfl (fun y110 hy110 => ?_)
  refine Ok_blk 7 (pc2 := 700) (lo2 := [some (.ref (mBase + 5)), some (.ref 0), some (.ref 115), some (.int x3)]) (st2 := [.int (x3 + 2), .ref (mBase + 5), .long (y110.toInt64 <<< ((32 : Int32).toInt64 &&& 63)), .ref 0]) rfl ?_
  refine Ok_ld (l := xs) rfl rfl (fun y111 hy111 => ?_)
  refine Ok_blk 4 (pc2 := 707) (lo2 := [some (.ref (mBase + 5)), some (.ref 0), some (.ref 115), some (.int x3)]) (st2 := [.long ((y110.toInt64 <<< ((32 : Int32).toInt64 &&& 63)) ||| (y111.toInt64 &&& 4294967295)), .ref 0]) rfl ?_
  refine Ok_call (y := 122) (as := [.ref 0, .long ((y110.toInt64 <<< ((32 : Int32).toInt64 &&& 63)) ||| (y111.toInt64 &&& 4294967295))]) (rest := []) (w := fun p112 => some (.int p112.1)) (h1 := fun p112 => HP p112.2 r) rfl rfl (fun x hx => tm_C_letters N (d + 12) xs c r ((y110.toInt64 <<< ((32 : Int32).toInt64 &&& 63)) ||| (y111.toInt64 &&& 4294967295)) x hx) (fun p112 hp112 => ?_)
  refine Ok_blk 5 (pc2 := 715) (lo2 := [some (.ref (mBase + 5)), some (.ref 0), some (.ref 115), some (.int x3)]) (st2 := [.int (x3 + 1), .ref (mBase + 5), .ref 115, .int p112.1]) rfl ?_
  refine Ok_ld (l := xs) rfl rfl (fun y113 hy113 => ?_)
  refine Ok_blk 7 (pc2 := 724) (lo2 := [some (.ref (mBase + 5)), some (.ref 0), some (.ref 115), some (.int x3)]) (st2 := [.int (x3 + 2), .ref (mBase + 5), .long (y113.toInt64 <<< ((32 : Int32).toInt64 &&& 63)), .ref 115, .int p112.1]) rfl ?_
  refine Ok_ld (l := xs) rfl rfl (fun y114 hy114 => ?_)
  refine Ok_blk 4 (pc2 := 731) (lo2 := [some (.ref (mBase + 5)), some (.ref 0), some (.ref 115), some (.int x3)]) (st2 := [.long ((y113.toInt64 <<< ((32 : Int32).toInt64 &&& 63)) ||| (y114.toInt64 &&& 4294967295)), .ref 115, .int p112.1]) rfl ?_
  refine Ok_call (y := 191) (as := [.ref 115, .long ((y113.toInt64 <<< ((32 : Int32).toInt64 &&& 63)) ||| (y114.toInt64 &&& 4294967295))]) (rest := [.int p112.1]) (w := fun p115 => some (.int p115.1)) (h1 := fun p115 => HP p112.2 p115.2) rfl rfl (fun x hx => tm_R_letters N (d + 14) xs p112.2 r ((y113.toInt64 <<< ((32 : Int32).toInt64 &&& 63)) ||| (y114.toInt64 &&& 4294967295)) x hx) (fun p115 hp115 => ?_)
  refine Ok_blk 1 (pc2 := (if p112.1 = p115.1 then 1787 else 737)) (lo2 := [some (.ref (mBase + 5)), some (.ref 0), some (.ref 115), some (.int x3)]) (st2 := []) rfl ?_
  refine Ok_if (fun h116 => ?_) (fun h116 => ?_)
  · refine Ok_drop (lo0 := [some (.ref (mBase + 5)), some (.ref 0), some (.ref 115), some (.int x3)]) ⟨Or.inr rfl, Or.inr rfl, Or.inr rfl, Or.inr rfl, trivial⟩ ?_
    exact t_Law_p1787 N d xs kb18 hb18 p112.2 p115.2 x3
  · refine Ok_blk 1 (pc2 := 738) (lo2 := [some (.ref (mBase + 5)), some (.ref 0), some (.ref 115), some (.int x3)]) (st2 := [.int 0]) rfl ?_
    exact Ok_rez (Or.inl rfl) rfl rfl
set_option maxHeartbeats 8000000 in
set_option maxRecDepth 100000 in
theorem t_Law_p739 (N d : Nat) (xs : List Int32) (kb18 : St → St → Int32 → Option (Int32 × St × St)) (hb18 : ∀ (c : St) (r : St) (x3 : Int32), Ok (mBig (mRoL xs) (d + 15)) (mRoL xs) 2 mK264 (fun p : Int32 × St × St => (some (.int p.1), HP p.2.1 p.2.2)) (kb18 c r x3) 18 [some (.ref (mBase + 5)), some (.ref 0), some (.ref 115), some (.int x3)] [] (HP c r)) (c : St) (r : St) (x3 : Int32) : Ok (mBig (mRoL xs) (d + 15)) (mRoL xs) 2 mK264 (fun p : Int32 × St × St => (some (.int p.1), HP p.2.1 p.2.2)) (Law_p739 N xs kb18 c r x3) 739 [some (.ref (mBase + 5)), some (.ref 0), some (.ref 115), some (.int x3)] [] (HP c r) := by
  unfold Law_p739
  refine Ok_blk 1 (pc2 := 740) (lo2 := [some (.ref (mBase + 5)), some (.ref 0), some (.ref 115), some (.int x3)]) (st2 := [.ref 0]) rfl ?_
  refine Ok_call (y := 123) (as := [.ref 0]) (rest := []) (w := fun p118 => some (.int p118.1)) (h1 := fun p118 => HP p118.2 r) rfl rfl (fun x hx => tm_C_blank N (d + 14) xs c r x hx) (fun p118 hp118 => ?_)
  refine Ok_blk 1 (pc2 := 744) (lo2 := [some (.ref (mBase + 5)), some (.ref 0), some (.ref 115), some (.int x3)]) (st2 := [.ref 115, .int p118.1]) rfl ?_
  refine Ok_call (y := 192) (as := [.ref 115]) (rest := [.int p118.1]) (w := fun p119 => some (.int p119.1)) (h1 := fun p119 => HP p118.2 p119.2) rfl rfl (fun x hx => tm_R_blank N (d + 14) xs p118.2 r x hx) (fun p119 hp119 => ?_)
  refine Ok_blk 1 (pc2 := (if p118.1 = p119.1 then 1787 else 750)) (lo2 := [some (.ref (mBase + 5)), some (.ref 0), some (.ref 115), some (.int x3)]) (st2 := []) rfl ?_
  refine Ok_if (fun h120 => ?_) (fun h120 => ?_)
  · refine Ok_drop (lo0 := [some (.ref (mBase + 5)), some (.ref 0), some (.ref 115), some (.int x3)]) ⟨Or.inr rfl, Or.inr rfl, Or.inr rfl, Or.inr rfl, trivial⟩ ?_
    exact t_Law_p1787 N d xs kb18 hb18 p118.2 p119.2 x3
  · refine Ok_blk 1 (pc2 := 751) (lo2 := [some (.ref (mBase + 5)), some (.ref 0), some (.ref 115), some (.int x3)]) (st2 := [.int 0]) rfl ?_
    exact Ok_rez (Or.inl rfl) rfl rfl
set_option maxHeartbeats 8000000 in
set_option maxRecDepth 100000 in
theorem t_Law_p752 (N d : Nat) (xs : List Int32) (kb18 : St → St → Int32 → Option (Int32 × St × St)) (hb18 : ∀ (c : St) (r : St) (x3 : Int32), Ok (mBig (mRoL xs) (d + 15)) (mRoL xs) 2 mK264 (fun p : Int32 × St × St => (some (.int p.1), HP p.2.1 p.2.2)) (kb18 c r x3) 18 [some (.ref (mBase + 5)), some (.ref 0), some (.ref 115), some (.int x3)] [] (HP c r)) (c : St) (r : St) (x3 : Int32) : Ok (mBig (mRoL xs) (d + 15)) (mRoL xs) 2 mK264 (fun p : Int32 × St × St => (some (.int p.1), HP p.2.1 p.2.2)) (Law_p752 N xs kb18 c r x3) 752 [some (.ref (mBase + 5)), some (.ref 0), some (.ref 115), some (.int x3)] [] (HP c r) := by
  unfold Law_p752
  refine Ok_blk 1 (pc2 := 753) (lo2 := [some (.ref (mBase + 5)), some (.ref 0), some (.ref 115), some (.int x3)]) (st2 := [.ref 0]) rfl ?_
  refine Ok_call (y := 124) (as := [.ref 0]) (rest := []) (w := fun p122 => some (.int p122.1)) (h1 := fun p122 => HP p122.2 r) rfl rfl (fun x hx => tm_C_fault N (d + 9) xs c r x hx) (fun p122 hp122 => ?_)
  refine Ok_blk 1 (pc2 := 757) (lo2 := [some (.ref (mBase + 5)), some (.ref 0), some (.ref 115), some (.int x3)]) (st2 := [.ref 115, .int p122.1]) rfl ?_
  refine Ok_call (y := 195) (as := [.ref 115]) (rest := [.int p122.1]) (w := fun p123 => some (.int p123.1)) (h1 := fun p123 => HP p122.2 p123.2) rfl rfl (fun x hx => tm_R_fault N (d + 12) xs p122.2 r x hx) (fun p123 hp123 => ?_)
  refine Ok_blk 1 (pc2 := (if p122.1 = p123.1 then 1787 else 763)) (lo2 := [some (.ref (mBase + 5)), some (.ref 0), some (.ref 115), some (.int x3)]) (st2 := []) rfl ?_
  refine Ok_if (fun h124 => ?_) (fun h124 => ?_)
  · refine Ok_drop (lo0 := [some (.ref (mBase + 5)), some (.ref 0), some (.ref 115), some (.int x3)]) ⟨Or.inr rfl, Or.inr rfl, Or.inr rfl, Or.inr rfl, trivial⟩ ?_
    exact t_Law_p1787 N d xs kb18 hb18 p122.2 p123.2 x3
  · refine Ok_blk 1 (pc2 := 764) (lo2 := [some (.ref (mBase + 5)), some (.ref 0), some (.ref 115), some (.int x3)]) (st2 := [.int 0]) rfl ?_
    exact Ok_rez (Or.inl rfl) rfl rfl
set_option maxHeartbeats 8000000 in
set_option maxRecDepth 100000 in
theorem t_Law_p765 (N d : Nat) (xs : List Int32) (kb18 : St → St → Int32 → Option (Int32 × St × St)) (hb18 : ∀ (c : St) (r : St) (x3 : Int32), Ok (mBig (mRoL xs) (d + 15)) (mRoL xs) 2 mK264 (fun p : Int32 × St × St => (some (.int p.1), HP p.2.1 p.2.2)) (kb18 c r x3) 18 [some (.ref (mBase + 5)), some (.ref 0), some (.ref 115), some (.int x3)] [] (HP c r)) (c : St) (r : St) (x3 : Int32) : Ok (mBig (mRoL xs) (d + 15)) (mRoL xs) 2 mK264 (fun p : Int32 × St × St => (some (.int p.1), HP p.2.1 p.2.2)) (Law_p765 N xs kb18 c r x3) 765 [some (.ref (mBase + 5)), some (.ref 0), some (.ref 115), some (.int x3)] [] (HP c r) := by
  unfold Law_p765
  refine Ok_blk 1 (pc2 := 766) (lo2 := [some (.ref (mBase + 5)), some (.ref 0), some (.ref 115), some (.int x3)]) (st2 := [.ref 0]) rfl ?_
  refine Ok_call (y := 125) (as := [.ref 0]) (rest := []) (w := fun p126 => some (.int p126.1)) (h1 := fun p126 => HP p126.2 r) rfl rfl (fun x hx => tm_C_text N (d + 8) xs c r x hx) (fun p126 hp126 => ?_)
  refine Ok_blk 1 (pc2 := 770) (lo2 := [some (.ref (mBase + 5)), some (.ref 0), some (.ref 115), some (.int x3)]) (st2 := [.ref 115, .int p126.1]) rfl ?_
  refine Ok_call (y := 196) (as := [.ref 115]) (rest := [.int p126.1]) (w := fun p127 => some (.int p127.1)) (h1 := fun p127 => HP p126.2 p127.2) rfl rfl (fun x hx => tm_R_text N (d + 12) xs p126.2 r x hx) (fun p127 hp127 => ?_)
  refine Ok_blk 1 (pc2 := (if p126.1 = p127.1 then 1787 else 776)) (lo2 := [some (.ref (mBase + 5)), some (.ref 0), some (.ref 115), some (.int x3)]) (st2 := []) rfl ?_
  refine Ok_if (fun h128 => ?_) (fun h128 => ?_)
  · refine Ok_drop (lo0 := [some (.ref (mBase + 5)), some (.ref 0), some (.ref 115), some (.int x3)]) ⟨Or.inr rfl, Or.inr rfl, Or.inr rfl, Or.inr rfl, trivial⟩ ?_
    exact t_Law_p1787 N d xs kb18 hb18 p126.2 p127.2 x3
  · refine Ok_blk 1 (pc2 := 777) (lo2 := [some (.ref (mBase + 5)), some (.ref 0), some (.ref 115), some (.int x3)]) (st2 := [.int 0]) rfl ?_
    exact Ok_rez (Or.inl rfl) rfl rfl
set_option maxHeartbeats 8000000 in
set_option maxRecDepth 100000 in
theorem t_Law_p778 (N d : Nat) (xs : List Int32) (kb18 : St → St → Int32 → Option (Int32 × St × St)) (hb18 : ∀ (c : St) (r : St) (x3 : Int32), Ok (mBig (mRoL xs) (d + 15)) (mRoL xs) 2 mK264 (fun p : Int32 × St × St => (some (.int p.1), HP p.2.1 p.2.2)) (kb18 c r x3) 18 [some (.ref (mBase + 5)), some (.ref 0), some (.ref 115), some (.int x3)] [] (HP c r)) (c : St) (r : St) (x3 : Int32) : Ok (mBig (mRoL xs) (d + 15)) (mRoL xs) 2 mK264 (fun p : Int32 × St × St => (some (.int p.1), HP p.2.1 p.2.2)) (Law_p778 N xs kb18 c r x3) 778 [some (.ref (mBase + 5)), some (.ref 0), some (.ref 115), some (.int x3)] [] (HP c r) := by
  unfold Law_p778
  refine Ok_blk 5 (pc2 := 783) (lo2 := [some (.ref (mBase + 5)), some (.ref 0), some (.ref 115), some (.int x3)]) (st2 := [.int (x3 + 1), .ref (mBase + 5), .ref 0]) rfl ?_
  refine Ok_ld (l := xs) rfl rfl (fun y130 hy130 => ?_)
  refine Ok_blk 4 (pc2 := 788) (lo2 := [some (.ref (mBase + 5)), some (.ref 0), some (.ref 115), some (.int x3)]) (st2 := [.int (x3 + 2), .ref (mBase + 5), .int y130, .ref 0]) rfl ?_
  refine Ok_ld (l := xs) rfl rfl (fun y131 hy131 => ?_)
  refine Ok_call (y := 126) (as := [.ref 0, .int y130, .int y131]) (rest := []) (w := fun p132 => some (.int p132.1)) (h1 := fun p132 => HP p132.2 r) rfl rfl (fun x hx => tm_C_says N (d + 9) xs c r y130 y131 x hx) (fun p132 hp132 => ?_)
  refine Ok_blk 5 (pc2 := 797) (lo2 := [some (.ref (mBase + 5)), some (.ref 0), some (.ref 115), some (.int x3)]) (st2 := [.int (x3 + 1), .ref (mBase + 5), .ref 115, .int p132.1]) rfl ?_
  refine Ok_ld (l := xs) rfl rfl (fun y133 hy133 => ?_)
  refine Ok_blk 4 (pc2 := 802) (lo2 := [some (.ref (mBase + 5)), some (.ref 0), some (.ref 115), some (.int x3)]) (st2 := [.int (x3 + 2), .ref (mBase + 5), .int y133, .ref 115, .int p132.1]) rfl ?_
  refine Ok_ld (l := xs) rfl rfl (fun y134 hy134 => ?_)
  refine Ok_call (y := 202) (as := [.ref 115, .int y133, .int y134]) (rest := [.int p132.1]) (w := fun p135 => some (.int p135.1)) (h1 := fun p135 => HP p132.2 p135.2) rfl rfl (fun x hx => tm_R_says N (d + 11) xs p132.2 r y133 y134 x hx) (fun p135 hp135 => ?_)
  refine Ok_blk 1 (pc2 := (if p132.1 = p135.1 then 1787 else 809)) (lo2 := [some (.ref (mBase + 5)), some (.ref 0), some (.ref 115), some (.int x3)]) (st2 := []) rfl ?_
  refine Ok_if (fun h136 => ?_) (fun h136 => ?_)
  · refine Ok_drop (lo0 := [some (.ref (mBase + 5)), some (.ref 0), some (.ref 115), some (.int x3)]) ⟨Or.inr rfl, Or.inr rfl, Or.inr rfl, Or.inr rfl, trivial⟩ ?_
    exact t_Law_p1787 N d xs kb18 hb18 p132.2 p135.2 x3
  · refine Ok_blk 1 (pc2 := 810) (lo2 := [some (.ref (mBase + 5)), some (.ref 0), some (.ref 115), some (.int x3)]) (st2 := [.int 0]) rfl ?_
    exact Ok_rez (Or.inl rfl) rfl rfl
set_option maxHeartbeats 8000000 in
set_option maxRecDepth 100000 in
theorem t_Law_p811 (N d : Nat) (xs : List Int32) (kb18 : St → St → Int32 → Option (Int32 × St × St)) (hb18 : ∀ (c : St) (r : St) (x3 : Int32), Ok (mBig (mRoL xs) (d + 15)) (mRoL xs) 2 mK264 (fun p : Int32 × St × St => (some (.int p.1), HP p.2.1 p.2.2)) (kb18 c r x3) 18 [some (.ref (mBase + 5)), some (.ref 0), some (.ref 115), some (.int x3)] [] (HP c r)) (c : St) (r : St) (x3 : Int32) : Ok (mBig (mRoL xs) (d + 15)) (mRoL xs) 2 mK264 (fun p : Int32 × St × St => (some (.int p.1), HP p.2.1 p.2.2)) (Law_p811 N xs kb18 c r x3) 811 [some (.ref (mBase + 5)), some (.ref 0), some (.ref 115), some (.int x3)] [] (HP c r) := by
  unfold Law_p811
  refine Ok_blk 5 (pc2 := 816) (lo2 := [some (.ref (mBase + 5)), some (.ref 0), some (.ref 115), some (.int x3)]) (st2 := [.int (x3 + 1), .ref (mBase + 5), .ref 0]) rfl ?_
  refine Ok_ld (l := xs) rfl rfl (fun y138 hy138 => ?_)
  refine Ok_blk 4 (pc2 := 821) (lo2 := [some (.ref (mBase + 5)), some (.ref 0), some (.ref 115), some (.int x3)]) (st2 := [.int (x3 + 2), .ref (mBase + 5), .int y138, .ref 0]) rfl ?_
  refine Ok_ld (l := xs) rfl rfl (fun y139 hy139 => ?_)
  refine Ok_blk 4 (pc2 := 826) (lo2 := [some (.ref (mBase + 5)), some (.ref 0), some (.ref 115), some (.int x3)]) (st2 := [.int (x3 + 3), .ref (mBase + 5), .int y139, .int y138, .ref 0]) rfl ?_
  refine Ok_ld (l := xs) rfl rfl (fun y140 hy140 => ?_)
  refine Ok_call (y := 127) (as := [.ref 0, .int y138, .int y139, .int y140]) (rest := []) (w := fun p141 => some (.long p141.1)) (h1 := fun p141 => HP p141.2 r) rfl rfl (fun x hx => tm_C_sum N (d + 9) xs c r y138 y139 y140 x hx) (fun p141 hp141 => ?_)
  refine Ok_blk 5 (pc2 := 835) (lo2 := [some (.ref (mBase + 5)), some (.ref 0), some (.ref 115), some (.int x3)]) (st2 := [.int (x3 + 1), .ref (mBase + 5), .ref 115, .long p141.1]) rfl ?_
  refine Ok_ld (l := xs) rfl rfl (fun y142 hy142 => ?_)
  refine Ok_blk 4 (pc2 := 840) (lo2 := [some (.ref (mBase + 5)), some (.ref 0), some (.ref 115), some (.int x3)]) (st2 := [.int (x3 + 2), .ref (mBase + 5), .int y142, .ref 115, .long p141.1]) rfl ?_
  refine Ok_ld (l := xs) rfl rfl (fun y143 hy143 => ?_)
  refine Ok_blk 4 (pc2 := 845) (lo2 := [some (.ref (mBase + 5)), some (.ref 0), some (.ref 115), some (.int x3)]) (st2 := [.int (x3 + 3), .ref (mBase + 5), .int y143, .int y142, .ref 115, .long p141.1]) rfl ?_
  refine Ok_ld (l := xs) rfl rfl (fun y144 hy144 => ?_)
  refine Ok_call (y := 203) (as := [.ref 115, .int y142, .int y143, .int y144]) (rest := [.long p141.1]) (w := fun p145 => some (.long p145.1)) (h1 := fun p145 => HP p141.2 p145.2) rfl rfl (fun x hx => tm_R_sum N (d + 11) xs p141.2 r y142 y143 y144 x hx) (fun p145 hp145 => ?_)
  refine Ok_blk 2 (pc2 := (if (mLc p141.1 p145.1) = 0 then 1787 else 853)) (lo2 := [some (.ref (mBase + 5)), some (.ref 0), some (.ref 115), some (.int x3)]) (st2 := []) rfl ?_
  refine Ok_if (fun h146 => ?_) (fun h146 => ?_)
  · refine Ok_drop (lo0 := [some (.ref (mBase + 5)), some (.ref 0), some (.ref 115), some (.int x3)]) ⟨Or.inr rfl, Or.inr rfl, Or.inr rfl, Or.inr rfl, trivial⟩ ?_
    exact t_Law_p1787 N d xs kb18 hb18 p141.2 p145.2 x3
  · refine Ok_blk 1 (pc2 := 854) (lo2 := [some (.ref (mBase + 5)), some (.ref 0), some (.ref 115), some (.int x3)]) (st2 := [.int 0]) rfl ?_
    exact Ok_rez (Or.inl rfl) rfl rfl
set_option maxHeartbeats 8000000 in
set_option maxRecDepth 100000 in
theorem t_Law_p855 (N d : Nat) (xs : List Int32) (kb18 : St → St → Int32 → Option (Int32 × St × St)) (hb18 : ∀ (c : St) (r : St) (x3 : Int32), Ok (mBig (mRoL xs) (d + 15)) (mRoL xs) 2 mK264 (fun p : Int32 × St × St => (some (.int p.1), HP p.2.1 p.2.2)) (kb18 c r x3) 18 [some (.ref (mBase + 5)), some (.ref 0), some (.ref 115), some (.int x3)] [] (HP c r)) (c : St) (r : St) (x3 : Int32) : Ok (mBig (mRoL xs) (d + 15)) (mRoL xs) 2 mK264 (fun p : Int32 × St × St => (some (.int p.1), HP p.2.1 p.2.2)) (Law_p855 N xs kb18 c r x3) 855 [some (.ref (mBase + 5)), some (.ref 0), some (.ref 115), some (.int x3)] [] (HP c r) := by
  unfold Law_p855
  refine Ok_blk 5 (pc2 := 860) (lo2 := [some (.ref (mBase + 5)), some (.ref 0), some (.ref 115), some (.int x3)]) (st2 := [.int (x3 + 1), .ref (mBase + 5), .ref 0]) rfl ?_
  refine Ok_ld (l := xs) rfl rfl (fun y148 hy148 => ?_)
  refine Ok_blk 4 (pc2 := 865) (lo2 := [some (.ref (mBase + 5)), some (.ref 0), some (.ref 115), some (.int x3)]) (st2 := [.int (x3 + 2), .ref (mBase + 5), .int y148, .ref 0]) rfl ?_
  refine Ok_ld (l := xs) rfl rfl (fun y149 hy149 => ?_)
  refine Ok_call (y := 129) (as := [.ref 0, .int y148, .int y149]) (rest := []) (w := fun p150 => some (.int p150.1)) (h1 := fun p150 => HP p150.2 r) rfl rfl (fun x hx => tm_C_lost N (d + 9) xs c r y148 y149 x hx) (fun p150 hp150 => ?_)
  refine Ok_blk 5 (pc2 := 874) (lo2 := [some (.ref (mBase + 5)), some (.ref 0), some (.ref 115), some (.int x3)]) (st2 := [.int (x3 + 1), .ref (mBase + 5), .ref 115, .int p150.1]) rfl ?_
  refine Ok_ld (l := xs) rfl rfl (fun y151 hy151 => ?_)
  refine Ok_blk 4 (pc2 := 879) (lo2 := [some (.ref (mBase + 5)), some (.ref 0), some (.ref 115), some (.int x3)]) (st2 := [.int (x3 + 2), .ref (mBase + 5), .int y151, .ref 115, .int p150.1]) rfl ?_
  refine Ok_ld (l := xs) rfl rfl (fun y152 hy152 => ?_)
  refine Ok_call (y := 205) (as := [.ref 115, .int y151, .int y152]) (rest := [.int p150.1]) (w := fun p153 => some (.int p153.1)) (h1 := fun p153 => HP p150.2 p153.2) rfl rfl (fun x hx => tm_R_lost N (d + 11) xs p150.2 r y151 y152 x hx) (fun p153 hp153 => ?_)
  refine Ok_blk 1 (pc2 := (if p150.1 = p153.1 then 1787 else 886)) (lo2 := [some (.ref (mBase + 5)), some (.ref 0), some (.ref 115), some (.int x3)]) (st2 := []) rfl ?_
  refine Ok_if (fun h154 => ?_) (fun h154 => ?_)
  · refine Ok_drop (lo0 := [some (.ref (mBase + 5)), some (.ref 0), some (.ref 115), some (.int x3)]) ⟨Or.inr rfl, Or.inr rfl, Or.inr rfl, Or.inr rfl, trivial⟩ ?_
    exact t_Law_p1787 N d xs kb18 hb18 p150.2 p153.2 x3
  · refine Ok_blk 1 (pc2 := 887) (lo2 := [some (.ref (mBase + 5)), some (.ref 0), some (.ref 115), some (.int x3)]) (st2 := [.int 0]) rfl ?_
    exact Ok_rez (Or.inl rfl) rfl rfl
set_option maxHeartbeats 8000000 in
set_option maxRecDepth 100000 in
theorem t_Law_p888 (N d : Nat) (xs : List Int32) (kb18 : St → St → Int32 → Option (Int32 × St × St)) (hb18 : ∀ (c : St) (r : St) (x3 : Int32), Ok (mBig (mRoL xs) (d + 15)) (mRoL xs) 2 mK264 (fun p : Int32 × St × St => (some (.int p.1), HP p.2.1 p.2.2)) (kb18 c r x3) 18 [some (.ref (mBase + 5)), some (.ref 0), some (.ref 115), some (.int x3)] [] (HP c r)) (c : St) (r : St) (x3 : Int32) : Ok (mBig (mRoL xs) (d + 15)) (mRoL xs) 2 mK264 (fun p : Int32 × St × St => (some (.int p.1), HP p.2.1 p.2.2)) (Law_p888 N xs kb18 c r x3) 888 [some (.ref (mBase + 5)), some (.ref 0), some (.ref 115), some (.int x3)] [] (HP c r) := by
  unfold Law_p888
  refine Ok_blk 5 (pc2 := 893) (lo2 := [some (.ref (mBase + 5)), some (.ref 0), some (.ref 115), some (.int x3)]) (st2 := [.int (x3 + 1), .ref (mBase + 5), .ref 0]) rfl ?_
  refine Ok_ld (l := xs) rfl rfl (fun y156 hy156 => ?_)
  refine Ok_call (y := 130) (as := [.ref 0, .int y156]) (rest := []) (w := fun p157 => some (.int p157.1)) (h1 := fun p157 => HP p157.2 r) rfl rfl (fun x hx => tm_C_way N (d + 9) xs c r y156 x hx) (fun p157 hp157 => ?_)
  refine Ok_blk 5 (pc2 := 902) (lo2 := [some (.ref (mBase + 5)), some (.ref 0), some (.ref 115), some (.int x3)]) (st2 := [.int (x3 + 1), .ref (mBase + 5), .ref 115, .int p157.1]) rfl ?_
  refine Ok_ld (l := xs) rfl rfl (fun y158 hy158 => ?_)
  refine Ok_call (y := 206) (as := [.ref 115, .int y158]) (rest := [.int p157.1]) (w := fun p159 => some (.int p159.1)) (h1 := fun p159 => HP p157.2 p159.2) rfl rfl (fun x hx => tm_R_way N (d + 11) xs p157.2 r y158 x hx) (fun p159 hp159 => ?_)
  refine Ok_blk 1 (pc2 := (if p157.1 = p159.1 then 1787 else 909)) (lo2 := [some (.ref (mBase + 5)), some (.ref 0), some (.ref 115), some (.int x3)]) (st2 := []) rfl ?_
  refine Ok_if (fun h160 => ?_) (fun h160 => ?_)
  · refine Ok_drop (lo0 := [some (.ref (mBase + 5)), some (.ref 0), some (.ref 115), some (.int x3)]) ⟨Or.inr rfl, Or.inr rfl, Or.inr rfl, Or.inr rfl, trivial⟩ ?_
    exact t_Law_p1787 N d xs kb18 hb18 p157.2 p159.2 x3
  · refine Ok_blk 1 (pc2 := 910) (lo2 := [some (.ref (mBase + 5)), some (.ref 0), some (.ref 115), some (.int x3)]) (st2 := [.int 0]) rfl ?_
    exact Ok_rez (Or.inl rfl) rfl rfl
set_option maxHeartbeats 8000000 in
set_option maxRecDepth 100000 in
theorem t_Law_p911 (N d : Nat) (xs : List Int32) (kb18 : St → St → Int32 → Option (Int32 × St × St)) (hb18 : ∀ (c : St) (r : St) (x3 : Int32), Ok (mBig (mRoL xs) (d + 15)) (mRoL xs) 2 mK264 (fun p : Int32 × St × St => (some (.int p.1), HP p.2.1 p.2.2)) (kb18 c r x3) 18 [some (.ref (mBase + 5)), some (.ref 0), some (.ref 115), some (.int x3)] [] (HP c r)) (c : St) (r : St) (x3 : Int32) : Ok (mBig (mRoL xs) (d + 15)) (mRoL xs) 2 mK264 (fun p : Int32 × St × St => (some (.int p.1), HP p.2.1 p.2.2)) (Law_p911 N xs kb18 c r x3) 911 [some (.ref (mBase + 5)), some (.ref 0), some (.ref 115), some (.int x3)] [] (HP c r) := by
  unfold Law_p911
  refine Ok_blk 5 (pc2 := 916) (lo2 := [some (.ref (mBase + 5)), some (.ref 0), some (.ref 115), some (.int x3)]) (st2 := [.int (x3 + 1), .ref (mBase + 5), .ref 0]) rfl ?_
  refine Ok_ld (l := xs) rfl rfl (fun y162 hy162 => ?_)
  refine Ok_blk 4 (pc2 := 921) (lo2 := [some (.ref (mBase + 5)), some (.ref 0), some (.ref 115), some (.int x3)]) (st2 := [.int (x3 + 2), .ref (mBase + 5), .int y162, .ref 0]) rfl ?_
  refine Ok_ld (l := xs) rfl rfl (fun y163 hy163 => ?_)
  refine Ok_call (y := 132) (as := [.ref 0, .int y162, .int y163]) (rest := []) (w := fun p164 => some (.int p164.1)) (h1 := fun p164 => HP p164.2 r) rfl rfl (fun x hx => tm_C_reading N (d + 12) xs c r y162 y163 x hx) (fun p164 hp164 => ?_)
  refine Ok_blk 5 (pc2 := 930) (lo2 := [some (.ref (mBase + 5)), some (.ref 0), some (.ref 115), some (.int x3)]) (st2 := [.int (x3 + 1), .ref (mBase + 5), .ref 115, .int p164.1]) rfl ?_
  refine Ok_ld (l := xs) rfl rfl (fun y165 hy165 => ?_)
  refine Ok_blk 4 (pc2 := 935) (lo2 := [some (.ref (mBase + 5)), some (.ref 0), some (.ref 115), some (.int x3)]) (st2 := [.int (x3 + 2), .ref (mBase + 5), .int y165, .ref 115, .int p164.1]) rfl ?_
  refine Ok_ld (l := xs) rfl rfl (fun y166 hy166 => ?_)
  refine Ok_call (y := 207) (as := [.ref 115, .int y165, .int y166]) (rest := [.int p164.1]) (w := fun p167 => some (.int p167.1)) (h1 := fun p167 => HP p164.2 p167.2) rfl rfl (fun x hx => tm_R_reading N (d + 13) xs p164.2 r y165 y166 x hx) (fun p167 hp167 => ?_)
  refine Ok_blk 1 (pc2 := (if p164.1 = p167.1 then 1787 else 942)) (lo2 := [some (.ref (mBase + 5)), some (.ref 0), some (.ref 115), some (.int x3)]) (st2 := []) rfl ?_
  refine Ok_if (fun h168 => ?_) (fun h168 => ?_)
  · refine Ok_drop (lo0 := [some (.ref (mBase + 5)), some (.ref 0), some (.ref 115), some (.int x3)]) ⟨Or.inr rfl, Or.inr rfl, Or.inr rfl, Or.inr rfl, trivial⟩ ?_
    exact t_Law_p1787 N d xs kb18 hb18 p164.2 p167.2 x3
  · refine Ok_blk 1 (pc2 := 943) (lo2 := [some (.ref (mBase + 5)), some (.ref 0), some (.ref 115), some (.int x3)]) (st2 := [.int 0]) rfl ?_
    exact Ok_rez (Or.inl rfl) rfl rfl
set_option maxHeartbeats 8000000 in
set_option maxRecDepth 100000 in
theorem t_Law_p944 (N d : Nat) (xs : List Int32) (kb18 : St → St → Int32 → Option (Int32 × St × St)) (hb18 : ∀ (c : St) (r : St) (x3 : Int32), Ok (mBig (mRoL xs) (d + 15)) (mRoL xs) 2 mK264 (fun p : Int32 × St × St => (some (.int p.1), HP p.2.1 p.2.2)) (kb18 c r x3) 18 [some (.ref (mBase + 5)), some (.ref 0), some (.ref 115), some (.int x3)] [] (HP c r)) (c : St) (r : St) (x3 : Int32) : Ok (mBig (mRoL xs) (d + 15)) (mRoL xs) 2 mK264 (fun p : Int32 × St × St => (some (.int p.1), HP p.2.1 p.2.2)) (Law_p944 N xs kb18 c r x3) 944 [some (.ref (mBase + 5)), some (.ref 0), some (.ref 115), some (.int x3)] [] (HP c r) := by
  unfold Law_p944
  refine Ok_blk 5 (pc2 := 949) (lo2 := [some (.ref (mBase + 5)), some (.ref 0), some (.ref 115), some (.int x3)]) (st2 := [.int (x3 + 1), .ref (mBase + 5), .ref 0]) rfl ?_
  refine Ok_ld (l := xs) rfl rfl (fun y170 hy170 => ?_)
  refine Ok_call (y := 133) (as := [.ref 0, .int y170]) (rest := []) (w := fun p171 => some (.int p171.1)) (h1 := fun p171 => HP p171.2 r) rfl rfl (fun x hx => tm_C_rate N (d + 13) xs c r y170 x hx) (fun p171 hp171 => ?_)
  refine Ok_blk 5 (pc2 := 958) (lo2 := [some (.ref (mBase + 5)), some (.ref 0), some (.ref 115), some (.int x3)]) (st2 := [.int (x3 + 1), .ref (mBase + 5), .ref 115, .int p171.1]) rfl ?_
  refine Ok_ld (l := xs) rfl rfl (fun y172 hy172 => ?_)
  refine Ok_call (y := 208) (as := [.ref 115, .int y172]) (rest := [.int p171.1]) (w := fun p173 => some (.int p173.1)) (h1 := fun p173 => HP p171.2 p173.2) rfl rfl (fun x hx => tm_R_rate N (d + 13) xs p171.2 r y172 x hx) (fun p173 hp173 => ?_)
  refine Ok_blk 1 (pc2 := (if p171.1 = p173.1 then 1787 else 965)) (lo2 := [some (.ref (mBase + 5)), some (.ref 0), some (.ref 115), some (.int x3)]) (st2 := []) rfl ?_
  refine Ok_if (fun h174 => ?_) (fun h174 => ?_)
  · refine Ok_drop (lo0 := [some (.ref (mBase + 5)), some (.ref 0), some (.ref 115), some (.int x3)]) ⟨Or.inr rfl, Or.inr rfl, Or.inr rfl, Or.inr rfl, trivial⟩ ?_
    exact t_Law_p1787 N d xs kb18 hb18 p171.2 p173.2 x3
  · refine Ok_blk 1 (pc2 := 966) (lo2 := [some (.ref (mBase + 5)), some (.ref 0), some (.ref 115), some (.int x3)]) (st2 := [.int 0]) rfl ?_
    exact Ok_rez (Or.inl rfl) rfl rfl
set_option maxHeartbeats 8000000 in
set_option maxRecDepth 100000 in
theorem t_Law_p967 (N d : Nat) (xs : List Int32) (kb18 : St → St → Int32 → Option (Int32 × St × St)) (hb18 : ∀ (c : St) (r : St) (x3 : Int32), Ok (mBig (mRoL xs) (d + 15)) (mRoL xs) 2 mK264 (fun p : Int32 × St × St => (some (.int p.1), HP p.2.1 p.2.2)) (kb18 c r x3) 18 [some (.ref (mBase + 5)), some (.ref 0), some (.ref 115), some (.int x3)] [] (HP c r)) (c : St) (r : St) (x3 : Int32) : Ok (mBig (mRoL xs) (d + 15)) (mRoL xs) 2 mK264 (fun p : Int32 × St × St => (some (.int p.1), HP p.2.1 p.2.2)) (Law_p967 N xs kb18 c r x3) 967 [some (.ref (mBase + 5)), some (.ref 0), some (.ref 115), some (.int x3)] [] (HP c r) := by
  unfold Law_p967
  refine Ok_blk 5 (pc2 := 972) (lo2 := [some (.ref (mBase + 5)), some (.ref 0), some (.ref 115), some (.int x3)]) (st2 := [.int (x3 + 1), .ref (mBase + 5), .ref 0]) rfl ?_
  refine Ok_ld (l := xs) rfl rfl (fun y176 hy176 => ?_)
  refine Ok_blk 4 (pc2 := 977) (lo2 := [some (.ref (mBase + 5)), some (.ref 0), some (.ref 115), some (.int x3)]) (st2 := [.int (x3 + 2), .ref (mBase + 5), .int y176, .ref 0]) rfl ?_
  refine Ok_ld (l := xs) rfl rfl (fun y177 hy177 => ?_)
  refine Ok_call (y := 134) (as := [.ref 0, .int y176, .int y177]) (rest := []) (w := fun p178 => some (.int p178)) (h1 := fun p178 => HP c r) rfl rfl (fun x hx => tm_C_could N (d + 12) xs c r y176 y177 x hx) (fun p178 hp178 => ?_)
  refine Ok_blk 5 (pc2 := 986) (lo2 := [some (.ref (mBase + 5)), some (.ref 0), some (.ref 115), some (.int x3)]) (st2 := [.int (x3 + 1), .ref (mBase + 5), .ref 115, .int p178]) rfl ?_
  refine Ok_ld (l := xs) rfl rfl (fun y179 hy179 => ?_)
  refine Ok_blk 4 (pc2 := 991) (lo2 := [some (.ref (mBase + 5)), some (.ref 0), some (.ref 115), some (.int x3)]) (st2 := [.int (x3 + 2), .ref (mBase + 5), .int y179, .ref 115, .int p178]) rfl ?_
  refine Ok_ld (l := xs) rfl rfl (fun y180 hy180 => ?_)
  refine Ok_call (y := 212) (as := [.ref 115, .int y179, .int y180]) (rest := [.int p178]) (w := fun p181 => some (.int p181)) (h1 := fun p181 => HP c r) rfl rfl (fun x hx => tm_R_could N (d + 11) xs c r y179 y180 x hx) (fun p181 hp181 => ?_)
  refine Ok_blk 1 (pc2 := (if p178 = p181 then 1787 else 998)) (lo2 := [some (.ref (mBase + 5)), some (.ref 0), some (.ref 115), some (.int x3)]) (st2 := []) rfl ?_
  refine Ok_if (fun h182 => ?_) (fun h182 => ?_)
  · refine Ok_drop (lo0 := [some (.ref (mBase + 5)), some (.ref 0), some (.ref 115), some (.int x3)]) ⟨Or.inr rfl, Or.inr rfl, Or.inr rfl, Or.inr rfl, trivial⟩ ?_
    exact t_Law_p1787 N d xs kb18 hb18 c r x3
  · refine Ok_blk 1 (pc2 := 999) (lo2 := [some (.ref (mBase + 5)), some (.ref 0), some (.ref 115), some (.int x3)]) (st2 := [.int 0]) rfl ?_
    exact Ok_rez (Or.inl rfl) rfl rfl
set_option maxHeartbeats 8000000 in
set_option maxRecDepth 100000 in
theorem t_Law_p1000 (N d : Nat) (xs : List Int32) (kb18 : St → St → Int32 → Option (Int32 × St × St)) (hb18 : ∀ (c : St) (r : St) (x3 : Int32), Ok (mBig (mRoL xs) (d + 15)) (mRoL xs) 2 mK264 (fun p : Int32 × St × St => (some (.int p.1), HP p.2.1 p.2.2)) (kb18 c r x3) 18 [some (.ref (mBase + 5)), some (.ref 0), some (.ref 115), some (.int x3)] [] (HP c r)) (c : St) (r : St) (x3 : Int32) : Ok (mBig (mRoL xs) (d + 15)) (mRoL xs) 2 mK264 (fun p : Int32 × St × St => (some (.int p.1), HP p.2.1 p.2.2)) (Law_p1000 N xs kb18 c r x3) 1000 [some (.ref (mBase + 5)), some (.ref 0), some (.ref 115), some (.int x3)] [] (HP c r) := by
  unfold Law_p1000
  refine Ok_blk 5 (pc2 := 1005) (lo2 := [some (.ref (mBase + 5)), some (.ref 0), some (.ref 115), some (.int x3)]) (st2 := [.int (x3 + 1), .ref (mBase + 5), .ref 0]) rfl ?_
  refine Ok_ld (l := xs) rfl rfl (fun y184 hy184 => ?_)
  refine Ok_blk 4 (pc2 := 1010) (lo2 := [some (.ref (mBase + 5)), some (.ref 0), some (.ref 115), some (.int x3)]) (st2 := [.int (x3 + 2), .ref (mBase + 5), .int y184, .ref 0]) rfl ?_
  refine Ok_ld (l := xs) rfl rfl (fun y185 hy185 => ?_)
  refine Ok_blk 4 (pc2 := 1015) (lo2 := [some (.ref (mBase + 5)), some (.ref 0), some (.ref 115), some (.int x3)]) (st2 := [.int (x3 + 3), .ref (mBase + 5), .int y185, .int y184, .ref 0]) rfl ?_
  refine Ok_ld (l := xs) rfl rfl (fun y186 hy186 => ?_)
  refine Ok_call (y := 135) (as := [.ref 0, .int y184, .int y185, .int y186]) (rest := []) (w := fun p187 => some (.int p187)) (h1 := fun p187 => HP c r) rfl rfl (fun x hx => tm_C_was N (d + 11) xs c r y184 y185 y186 x hx) (fun p187 hp187 => ?_)
  refine Ok_blk 5 (pc2 := 1024) (lo2 := [some (.ref (mBase + 5)), some (.ref 0), some (.ref 115), some (.int x3)]) (st2 := [.int (x3 + 1), .ref (mBase + 5), .ref 115, .int p187]) rfl ?_
  refine Ok_ld (l := xs) rfl rfl (fun y188 hy188 => ?_)
  refine Ok_blk 4 (pc2 := 1029) (lo2 := [some (.ref (mBase + 5)), some (.ref 0), some (.ref 115), some (.int x3)]) (st2 := [.int (x3 + 2), .ref (mBase + 5), .int y188, .ref 115, .int p187]) rfl ?_
  refine Ok_ld (l := xs) rfl rfl (fun y189 hy189 => ?_)
  refine Ok_blk 4 (pc2 := 1034) (lo2 := [some (.ref (mBase + 5)), some (.ref 0), some (.ref 115), some (.int x3)]) (st2 := [.int (x3 + 3), .ref (mBase + 5), .int y189, .int y188, .ref 115, .int p187]) rfl ?_
  refine Ok_ld (l := xs) rfl rfl (fun y190 hy190 => ?_)
  refine Ok_call (y := 213) (as := [.ref 115, .int y188, .int y189, .int y190]) (rest := [.int p187]) (w := fun p191 => some (.int p191)) (h1 := fun p191 => HP c r) rfl rfl (fun x hx => tm_R_was N (d + 11) xs c r y188 y189 y190 x hx) (fun p191 hp191 => ?_)
  refine Ok_blk 1 (pc2 := (if p187 = p191 then 1787 else 1041)) (lo2 := [some (.ref (mBase + 5)), some (.ref 0), some (.ref 115), some (.int x3)]) (st2 := []) rfl ?_
  refine Ok_if (fun h192 => ?_) (fun h192 => ?_)
  · refine Ok_drop (lo0 := [some (.ref (mBase + 5)), some (.ref 0), some (.ref 115), some (.int x3)]) ⟨Or.inr rfl, Or.inr rfl, Or.inr rfl, Or.inr rfl, trivial⟩ ?_
    exact t_Law_p1787 N d xs kb18 hb18 c r x3
  · refine Ok_blk 1 (pc2 := 1042) (lo2 := [some (.ref (mBase + 5)), some (.ref 0), some (.ref 115), some (.int x3)]) (st2 := [.int 0]) rfl ?_
    exact Ok_rez (Or.inl rfl) rfl rfl
set_option maxHeartbeats 8000000 in
set_option maxRecDepth 100000 in
theorem t_Law_p1043 (N d : Nat) (xs : List Int32) (kb18 : St → St → Int32 → Option (Int32 × St × St)) (hb18 : ∀ (c : St) (r : St) (x3 : Int32), Ok (mBig (mRoL xs) (d + 15)) (mRoL xs) 2 mK264 (fun p : Int32 × St × St => (some (.int p.1), HP p.2.1 p.2.2)) (kb18 c r x3) 18 [some (.ref (mBase + 5)), some (.ref 0), some (.ref 115), some (.int x3)] [] (HP c r)) (c : St) (r : St) (x3 : Int32) : Ok (mBig (mRoL xs) (d + 15)) (mRoL xs) 2 mK264 (fun p : Int32 × St × St => (some (.int p.1), HP p.2.1 p.2.2)) (Law_p1043 N xs kb18 c r x3) 1043 [some (.ref (mBase + 5)), some (.ref 0), some (.ref 115), some (.int x3)] [] (HP c r) := by
  unfold Law_p1043
  refine Ok_blk 5 (pc2 := 1048) (lo2 := [some (.ref (mBase + 5)), some (.ref 0), some (.ref 115), some (.int x3)]) (st2 := [.int (x3 + 1), .ref (mBase + 5), .ref 0]) rfl ?_
  refine Ok_ld (l := xs) rfl rfl (fun y194 hy194 => ?_)
  refine Ok_call (y := 136) (as := [.ref 0, .int y194]) (rest := []) (w := fun p195 => some (.int p195.1)) (h1 := fun p195 => HP p195.2 r) rfl rfl (fun x hx => tm_C_arrive N (d + 13) xs c r y194 x hx) (fun p195 hp195 => ?_)
  refine Ok_blk 5 (pc2 := 1057) (lo2 := [some (.ref (mBase + 5)), some (.ref 0), some (.ref 115), some (.int x3)]) (st2 := [.int (x3 + 1), .ref (mBase + 5), .ref 115, .int p195.1]) rfl ?_
  refine Ok_ld (l := xs) rfl rfl (fun y196 hy196 => ?_)
  refine Ok_call (y := 214) (as := [.ref 115, .int y196]) (rest := [.int p195.1]) (w := fun p197 => some (.int p197.1)) (h1 := fun p197 => HP p195.2 p197.2) rfl rfl (fun x hx => tm_R_arrive N (d + 13) xs p195.2 r y196 x hx) (fun p197 hp197 => ?_)
  refine Ok_blk 1 (pc2 := (if p195.1 = p197.1 then 1787 else 1064)) (lo2 := [some (.ref (mBase + 5)), some (.ref 0), some (.ref 115), some (.int x3)]) (st2 := []) rfl ?_
  refine Ok_if (fun h198 => ?_) (fun h198 => ?_)
  · refine Ok_drop (lo0 := [some (.ref (mBase + 5)), some (.ref 0), some (.ref 115), some (.int x3)]) ⟨Or.inr rfl, Or.inr rfl, Or.inr rfl, Or.inr rfl, trivial⟩ ?_
    exact t_Law_p1787 N d xs kb18 hb18 p195.2 p197.2 x3
  · refine Ok_blk 1 (pc2 := 1065) (lo2 := [some (.ref (mBase + 5)), some (.ref 0), some (.ref 115), some (.int x3)]) (st2 := [.int 0]) rfl ?_
    exact Ok_rez (Or.inl rfl) rfl rfl
set_option maxHeartbeats 8000000 in
set_option maxRecDepth 100000 in
theorem t_Law_p1066 (N d : Nat) (xs : List Int32) (kb18 : St → St → Int32 → Option (Int32 × St × St)) (hb18 : ∀ (c : St) (r : St) (x3 : Int32), Ok (mBig (mRoL xs) (d + 15)) (mRoL xs) 2 mK264 (fun p : Int32 × St × St => (some (.int p.1), HP p.2.1 p.2.2)) (kb18 c r x3) 18 [some (.ref (mBase + 5)), some (.ref 0), some (.ref 115), some (.int x3)] [] (HP c r)) (c : St) (r : St) (x3 : Int32) : Ok (mBig (mRoL xs) (d + 15)) (mRoL xs) 2 mK264 (fun p : Int32 × St × St => (some (.int p.1), HP p.2.1 p.2.2)) (Law_p1066 N xs kb18 c r x3) 1066 [some (.ref (mBase + 5)), some (.ref 0), some (.ref 115), some (.int x3)] [] (HP c r) := by
  unfold Law_p1066
  refine Ok_blk 5 (pc2 := 1071) (lo2 := [some (.ref (mBase + 5)), some (.ref 0), some (.ref 115), some (.int x3)]) (st2 := [.int (x3 + 1), .ref (mBase + 5), .ref 0]) rfl ?_
  refine Ok_ld (l := xs) rfl rfl (fun y200 hy200 => ?_)
  refine Ok_blk 4 (pc2 := 1076) (lo2 := [some (.ref (mBase + 5)), some (.ref 0), some (.ref 115), some (.int x3)]) (st2 := [.int (x3 + 2), .ref (mBase + 5), .int y200, .ref 0]) rfl ?_
  refine Ok_ld (l := xs) rfl rfl (fun y201 hy201 => ?_)
  refine Ok_blk 4 (pc2 := 1081) (lo2 := [some (.ref (mBase + 5)), some (.ref 0), some (.ref 115), some (.int x3)]) (st2 := [.int (x3 + 3), .ref (mBase + 5), .int y201, .int y200, .ref 0]) rfl ?_
  refine Ok_ld (l := xs) rfl rfl (fun y202 hy202 => ?_)
  refine Ok_call (y := 137) (as := [.ref 0, .int y200, .int y201, .int y202]) (rest := []) (w := fun p203 => some (.int p203.1)) (h1 := fun p203 => HP p203.2 r) rfl rfl (fun x hx => tm_C_laid N (d + 1) xs c r y200 y201 y202 x hx) (fun p203 hp203 => ?_)
  refine Ok_blk 5 (pc2 := 1090) (lo2 := [some (.ref (mBase + 5)), some (.ref 0), some (.ref 115), some (.int x3)]) (st2 := [.int (x3 + 1), .ref (mBase + 5), .ref 115, .int p203.1]) rfl ?_
  refine Ok_ld (l := xs) rfl rfl (fun y204 hy204 => ?_)
  refine Ok_blk 4 (pc2 := 1095) (lo2 := [some (.ref (mBase + 5)), some (.ref 0), some (.ref 115), some (.int x3)]) (st2 := [.int (x3 + 2), .ref (mBase + 5), .int y204, .ref 115, .int p203.1]) rfl ?_
  refine Ok_ld (l := xs) rfl rfl (fun y205 hy205 => ?_)
  refine Ok_blk 4 (pc2 := 1100) (lo2 := [some (.ref (mBase + 5)), some (.ref 0), some (.ref 115), some (.int x3)]) (st2 := [.int (x3 + 3), .ref (mBase + 5), .int y205, .int y204, .ref 115, .int p203.1]) rfl ?_
  refine Ok_ld (l := xs) rfl rfl (fun y206 hy206 => ?_)
  refine Ok_call (y := 218) (as := [.ref 115, .int y204, .int y205, .int y206]) (rest := [.int p203.1]) (w := fun p207 => some (.int p207.1)) (h1 := fun p207 => HP p203.2 p207.2) rfl rfl (fun x hx => tm_R_laid N (d + 12) xs p203.2 r y204 y205 y206 x hx) (fun p207 hp207 => ?_)
  refine Ok_blk 1 (pc2 := (if p203.1 = p207.1 then 1787 else 1107)) (lo2 := [some (.ref (mBase + 5)), some (.ref 0), some (.ref 115), some (.int x3)]) (st2 := []) rfl ?_
  refine Ok_if (fun h208 => ?_) (fun h208 => ?_)
  · refine Ok_drop (lo0 := [some (.ref (mBase + 5)), some (.ref 0), some (.ref 115), some (.int x3)]) ⟨Or.inr rfl, Or.inr rfl, Or.inr rfl, Or.inr rfl, trivial⟩ ?_
    exact t_Law_p1787 N d xs kb18 hb18 p203.2 p207.2 x3
  · refine Ok_blk 1 (pc2 := 1108) (lo2 := [some (.ref (mBase + 5)), some (.ref 0), some (.ref 115), some (.int x3)]) (st2 := [.int 0]) rfl ?_
    exact Ok_rez (Or.inl rfl) rfl rfl
set_option maxHeartbeats 8000000 in
set_option maxRecDepth 100000 in
theorem t_Law_p1109 (N d : Nat) (xs : List Int32) (kb18 : St → St → Int32 → Option (Int32 × St × St)) (hb18 : ∀ (c : St) (r : St) (x3 : Int32), Ok (mBig (mRoL xs) (d + 15)) (mRoL xs) 2 mK264 (fun p : Int32 × St × St => (some (.int p.1), HP p.2.1 p.2.2)) (kb18 c r x3) 18 [some (.ref (mBase + 5)), some (.ref 0), some (.ref 115), some (.int x3)] [] (HP c r)) (c : St) (r : St) (x3 : Int32) : Ok (mBig (mRoL xs) (d + 15)) (mRoL xs) 2 mK264 (fun p : Int32 × St × St => (some (.int p.1), HP p.2.1 p.2.2)) (Law_p1109 N xs kb18 c r x3) 1109 [some (.ref (mBase + 5)), some (.ref 0), some (.ref 115), some (.int x3)] [] (HP c r) := by
  unfold Law_p1109
  refine Ok_blk 5 (pc2 := 1114) (lo2 := [some (.ref (mBase + 5)), some (.ref 0), some (.ref 115), some (.int x3)]) (st2 := [.int (x3 + 1), .ref (mBase + 5), .ref 0]) rfl ?_
  refine Ok_ld (l := xs) rfl rfl (fun y210 hy210 => ?_)
  refine Ok_blk 4 (pc2 := 1119) (lo2 := [some (.ref (mBase + 5)), some (.ref 0), some (.ref 115), some (.int x3)]) (st2 := [.int (x3 + 2), .ref (mBase + 5), .int y210, .ref 0]) rfl ?_
  refine Ok_ld (l := xs) rfl rfl (fun y211 hy211 => ?_)
  refine Ok_call (y := 138) (as := [.ref 0, .int y210, .int y211]) (rest := []) (w := fun p212 => some (.int p212.1)) (h1 := fun p212 => HP p212.2 r) rfl rfl (fun x hx => tm_C_flock N (d + 13) xs c r y210 y211 x hx) (fun p212 hp212 => ?_)
  refine Ok_blk 5 (pc2 := 1128) (lo2 := [some (.ref (mBase + 5)), some (.ref 0), some (.ref 115), some (.int x3)]) (st2 := [.int (x3 + 1), .ref (mBase + 5), .ref 115, .int p212.1]) rfl ?_
  refine Ok_ld (l := xs) rfl rfl (fun y213 hy213 => ?_)
  refine Ok_blk 4 (pc2 := 1133) (lo2 := [some (.ref (mBase + 5)), some (.ref 0), some (.ref 115), some (.int x3)]) (st2 := [.int (x3 + 2), .ref (mBase + 5), .int y213, .ref 115, .int p212.1]) rfl ?_
  refine Ok_ld (l := xs) rfl rfl (fun y214 hy214 => ?_)
  refine Ok_call (y := 220) (as := [.ref 115, .int y213, .int y214]) (rest := [.int p212.1]) (w := fun p215 => some (.int p215.1)) (h1 := fun p215 => HP p212.2 p215.2) rfl rfl (fun x hx => tm_R_flock N (d + 13) xs p212.2 r y213 y214 x hx) (fun p215 hp215 => ?_)
  refine Ok_blk 1 (pc2 := (if p212.1 = p215.1 then 1787 else 1140)) (lo2 := [some (.ref (mBase + 5)), some (.ref 0), some (.ref 115), some (.int x3)]) (st2 := []) rfl ?_
  refine Ok_if (fun h216 => ?_) (fun h216 => ?_)
  · refine Ok_drop (lo0 := [some (.ref (mBase + 5)), some (.ref 0), some (.ref 115), some (.int x3)]) ⟨Or.inr rfl, Or.inr rfl, Or.inr rfl, Or.inr rfl, trivial⟩ ?_
    exact t_Law_p1787 N d xs kb18 hb18 p212.2 p215.2 x3
  · refine Ok_blk 1 (pc2 := 1141) (lo2 := [some (.ref (mBase + 5)), some (.ref 0), some (.ref 115), some (.int x3)]) (st2 := [.int 0]) rfl ?_
    exact Ok_rez (Or.inl rfl) rfl rfl
set_option maxHeartbeats 8000000 in
set_option maxRecDepth 100000 in
theorem t_Law_p1142 (N d : Nat) (xs : List Int32) (kb18 : St → St → Int32 → Option (Int32 × St × St)) (hb18 : ∀ (c : St) (r : St) (x3 : Int32), Ok (mBig (mRoL xs) (d + 15)) (mRoL xs) 2 mK264 (fun p : Int32 × St × St => (some (.int p.1), HP p.2.1 p.2.2)) (kb18 c r x3) 18 [some (.ref (mBase + 5)), some (.ref 0), some (.ref 115), some (.int x3)] [] (HP c r)) (c : St) (r : St) (x3 : Int32) : Ok (mBig (mRoL xs) (d + 15)) (mRoL xs) 2 mK264 (fun p : Int32 × St × St => (some (.int p.1), HP p.2.1 p.2.2)) (Law_p1142 N xs kb18 c r x3) 1142 [some (.ref (mBase + 5)), some (.ref 0), some (.ref 115), some (.int x3)] [] (HP c r) := by
  unfold Law_p1142
  refine Ok_blk 5 (pc2 := 1147) (lo2 := [some (.ref (mBase + 5)), some (.ref 0), some (.ref 115), some (.int x3)]) (st2 := [.int (x3 + 1), .ref (mBase + 5), .ref 0]) rfl ?_
  refine Ok_ld (l := xs) rfl rfl (fun y218 hy218 => ?_)
  refine Ok_blk 4 (pc2 := 1152) (lo2 := [some (.ref (mBase + 5)), some (.ref 0), some (.ref 115), some (.int x3)]) (st2 := [.int (x3 + 2), .ref (mBase + 5), .int y218, .ref 0]) rfl ?_
  refine Ok_ld (l := xs) rfl rfl (fun y219 hy219 => ?_)
  refine Ok_call (y := 139) (as := [.ref 0, .int y218, .int y219]) (rest := []) (w := fun p220 => some (.int p220.1)) (h1 := fun p220 => HP p220.2 r) rfl rfl (fun x hx => tm_C_works N (d + 13) xs c r y218 y219 x hx) (fun p220 hp220 => ?_)
  refine Ok_blk 5 (pc2 := 1161) (lo2 := [some (.ref (mBase + 5)), some (.ref 0), some (.ref 115), some (.int x3)]) (st2 := [.int (x3 + 1), .ref (mBase + 5), .ref 115, .int p220.1]) rfl ?_
  refine Ok_ld (l := xs) rfl rfl (fun y221 hy221 => ?_)
  refine Ok_blk 4 (pc2 := 1166) (lo2 := [some (.ref (mBase + 5)), some (.ref 0), some (.ref 115), some (.int x3)]) (st2 := [.int (x3 + 2), .ref (mBase + 5), .int y221, .ref 115, .int p220.1]) rfl ?_
  refine Ok_ld (l := xs) rfl rfl (fun y222 hy222 => ?_)
  refine Ok_call (y := 221) (as := [.ref 115, .int y221, .int y222]) (rest := [.int p220.1]) (w := fun p223 => some (.int p223.1)) (h1 := fun p223 => HP p220.2 p223.2) rfl rfl (fun x hx => tm_R_works N (d + 13) xs p220.2 r y221 y222 x hx) (fun p223 hp223 => ?_)
  refine Ok_blk 1 (pc2 := (if p220.1 = p223.1 then 1787 else 1173)) (lo2 := [some (.ref (mBase + 5)), some (.ref 0), some (.ref 115), some (.int x3)]) (st2 := []) rfl ?_
  refine Ok_if (fun h224 => ?_) (fun h224 => ?_)
  · refine Ok_drop (lo0 := [some (.ref (mBase + 5)), some (.ref 0), some (.ref 115), some (.int x3)]) ⟨Or.inr rfl, Or.inr rfl, Or.inr rfl, Or.inr rfl, trivial⟩ ?_
    exact t_Law_p1787 N d xs kb18 hb18 p220.2 p223.2 x3
  · refine Ok_blk 1 (pc2 := 1174) (lo2 := [some (.ref (mBase + 5)), some (.ref 0), some (.ref 115), some (.int x3)]) (st2 := [.int 0]) rfl ?_
    exact Ok_rez (Or.inl rfl) rfl rfl
set_option maxHeartbeats 8000000 in
set_option maxRecDepth 100000 in
theorem t_Law_p1175 (N d : Nat) (xs : List Int32) (kb18 : St → St → Int32 → Option (Int32 × St × St)) (hb18 : ∀ (c : St) (r : St) (x3 : Int32), Ok (mBig (mRoL xs) (d + 15)) (mRoL xs) 2 mK264 (fun p : Int32 × St × St => (some (.int p.1), HP p.2.1 p.2.2)) (kb18 c r x3) 18 [some (.ref (mBase + 5)), some (.ref 0), some (.ref 115), some (.int x3)] [] (HP c r)) (c : St) (r : St) (x3 : Int32) : Ok (mBig (mRoL xs) (d + 15)) (mRoL xs) 2 mK264 (fun p : Int32 × St × St => (some (.int p.1), HP p.2.1 p.2.2)) (Law_p1175 N xs kb18 c r x3) 1175 [some (.ref (mBase + 5)), some (.ref 0), some (.ref 115), some (.int x3)] [] (HP c r) := by
  unfold Law_p1175
  refine Ok_blk 5 (pc2 := 1180) (lo2 := [some (.ref (mBase + 5)), some (.ref 0), some (.ref 115), some (.int x3)]) (st2 := [.int (x3 + 1), .ref (mBase + 5), .ref 0]) rfl ?_
  refine Ok_ld (l := xs) rfl rfl (fun y226 hy226 => ?_)
  refine Ok_blk 4 (pc2 := 1185) (lo2 := [some (.ref (mBase + 5)), some (.ref 0), some (.ref 115), some (.int x3)]) (st2 := [.int (x3 + 2), .ref (mBase + 5), .int y226, .ref 0]) rfl ?_
  refine Ok_ld (l := xs) rfl rfl (fun y227 hy227 => ?_)
  refine Ok_blk 4 (pc2 := 1190) (lo2 := [some (.ref (mBase + 5)), some (.ref 0), some (.ref 115), some (.int x3)]) (st2 := [.int (x3 + 3), .ref (mBase + 5), .int y227, .int y226, .ref 0]) rfl ?_
  refine Ok_ld (l := xs) rfl rfl (fun y228 hy228 => ?_)
  refine Ok_call (y := 140) (as := [.ref 0, .int y226, .int y227, .int y228]) (rest := []) (w := fun p229 => some (.int p229.1)) (h1 := fun p229 => HP p229.2 r) rfl rfl (fun x hx => tm_C_days N (d + 13) xs c r y226 y227 y228 x hx) (fun p229 hp229 => ?_)
  refine Ok_blk 5 (pc2 := 1199) (lo2 := [some (.ref (mBase + 5)), some (.ref 0), some (.ref 115), some (.int x3)]) (st2 := [.int (x3 + 1), .ref (mBase + 5), .ref 115, .int p229.1]) rfl ?_
  refine Ok_ld (l := xs) rfl rfl (fun y230 hy230 => ?_)
  refine Ok_blk 4 (pc2 := 1204) (lo2 := [some (.ref (mBase + 5)), some (.ref 0), some (.ref 115), some (.int x3)]) (st2 := [.int (x3 + 2), .ref (mBase + 5), .int y230, .ref 115, .int p229.1]) rfl ?_
  refine Ok_ld (l := xs) rfl rfl (fun y231 hy231 => ?_)
  refine Ok_blk 4 (pc2 := 1209) (lo2 := [some (.ref (mBase + 5)), some (.ref 0), some (.ref 115), some (.int x3)]) (st2 := [.int (x3 + 3), .ref (mBase + 5), .int y231, .int y230, .ref 115, .int p229.1]) rfl ?_
  refine Ok_ld (l := xs) rfl rfl (fun y232 hy232 => ?_)
  refine Ok_call (y := 222) (as := [.ref 115, .int y230, .int y231, .int y232]) (rest := [.int p229.1]) (w := fun p233 => some (.int p233.1)) (h1 := fun p233 => HP p229.2 p233.2) rfl rfl (fun x hx => tm_R_days N (d + 12) xs p229.2 r y230 y231 y232 x hx) (fun p233 hp233 => ?_)
  refine Ok_blk 1 (pc2 := (if p229.1 = p233.1 then 1787 else 1216)) (lo2 := [some (.ref (mBase + 5)), some (.ref 0), some (.ref 115), some (.int x3)]) (st2 := []) rfl ?_
  refine Ok_if (fun h234 => ?_) (fun h234 => ?_)
  · refine Ok_drop (lo0 := [some (.ref (mBase + 5)), some (.ref 0), some (.ref 115), some (.int x3)]) ⟨Or.inr rfl, Or.inr rfl, Or.inr rfl, Or.inr rfl, trivial⟩ ?_
    exact t_Law_p1787 N d xs kb18 hb18 p229.2 p233.2 x3
  · refine Ok_blk 1 (pc2 := 1217) (lo2 := [some (.ref (mBase + 5)), some (.ref 0), some (.ref 115), some (.int x3)]) (st2 := [.int 0]) rfl ?_
    exact Ok_rez (Or.inl rfl) rfl rfl
set_option maxHeartbeats 8000000 in
set_option maxRecDepth 100000 in
theorem t_Law_p1218 (N d : Nat) (xs : List Int32) (kb18 : St → St → Int32 → Option (Int32 × St × St)) (hb18 : ∀ (c : St) (r : St) (x3 : Int32), Ok (mBig (mRoL xs) (d + 15)) (mRoL xs) 2 mK264 (fun p : Int32 × St × St => (some (.int p.1), HP p.2.1 p.2.2)) (kb18 c r x3) 18 [some (.ref (mBase + 5)), some (.ref 0), some (.ref 115), some (.int x3)] [] (HP c r)) (c : St) (r : St) (x3 : Int32) : Ok (mBig (mRoL xs) (d + 15)) (mRoL xs) 2 mK264 (fun p : Int32 × St × St => (some (.int p.1), HP p.2.1 p.2.2)) (Law_p1218 N xs kb18 c r x3) 1218 [some (.ref (mBase + 5)), some (.ref 0), some (.ref 115), some (.int x3)] [] (HP c r) := by
  unfold Law_p1218
  refine Ok_blk 5 (pc2 := 1223) (lo2 := [some (.ref (mBase + 5)), some (.ref 0), some (.ref 115), some (.int x3)]) (st2 := [.int (x3 + 1), .ref (mBase + 5), .ref 0]) rfl ?_
  refine Ok_ld (l := xs) rfl rfl (fun y236 hy236 => ?_)
  refine Ok_call (y := 141) (as := [.ref 0, .int y236]) (rest := []) (w := fun p237 => some (.int p237.1)) (h1 := fun p237 => HP p237.2 r) rfl rfl (fun x hx => tm_C_loss N (d + 13) xs c r y236 x hx) (fun p237 hp237 => ?_)
  refine Ok_blk 5 (pc2 := 1232) (lo2 := [some (.ref (mBase + 5)), some (.ref 0), some (.ref 115), some (.int x3)]) (st2 := [.int (x3 + 1), .ref (mBase + 5), .ref 115, .int p237.1]) rfl ?_
  refine Ok_ld (l := xs) rfl rfl (fun y238 hy238 => ?_)
  refine Ok_call (y := 223) (as := [.ref 115, .int y238]) (rest := [.int p237.1]) (w := fun p239 => some (.int p239.1)) (h1 := fun p239 => HP p237.2 p239.2) rfl rfl (fun x hx => tm_R_loss N (d + 13) xs p237.2 r y238 x hx) (fun p239 hp239 => ?_)
  refine Ok_blk 1 (pc2 := (if p237.1 = p239.1 then 1787 else 1239)) (lo2 := [some (.ref (mBase + 5)), some (.ref 0), some (.ref 115), some (.int x3)]) (st2 := []) rfl ?_
  refine Ok_if (fun h240 => ?_) (fun h240 => ?_)
  · refine Ok_drop (lo0 := [some (.ref (mBase + 5)), some (.ref 0), some (.ref 115), some (.int x3)]) ⟨Or.inr rfl, Or.inr rfl, Or.inr rfl, Or.inr rfl, trivial⟩ ?_
    exact t_Law_p1787 N d xs kb18 hb18 p237.2 p239.2 x3
  · refine Ok_blk 1 (pc2 := 1240) (lo2 := [some (.ref (mBase + 5)), some (.ref 0), some (.ref 115), some (.int x3)]) (st2 := [.int 0]) rfl ?_
    exact Ok_rez (Or.inl rfl) rfl rfl
set_option maxHeartbeats 8000000 in
set_option maxRecDepth 100000 in
theorem t_Law_p1241 (N d : Nat) (xs : List Int32) (kb18 : St → St → Int32 → Option (Int32 × St × St)) (hb18 : ∀ (c : St) (r : St) (x3 : Int32), Ok (mBig (mRoL xs) (d + 15)) (mRoL xs) 2 mK264 (fun p : Int32 × St × St => (some (.int p.1), HP p.2.1 p.2.2)) (kb18 c r x3) 18 [some (.ref (mBase + 5)), some (.ref 0), some (.ref 115), some (.int x3)] [] (HP c r)) (c : St) (r : St) (x3 : Int32) : Ok (mBig (mRoL xs) (d + 15)) (mRoL xs) 2 mK264 (fun p : Int32 × St × St => (some (.int p.1), HP p.2.1 p.2.2)) (Law_p1241 N xs kb18 c r x3) 1241 [some (.ref (mBase + 5)), some (.ref 0), some (.ref 115), some (.int x3)] [] (HP c r) := by
  unfold Law_p1241
  refine Ok_blk 5 (pc2 := 1246) (lo2 := [some (.ref (mBase + 5)), some (.ref 0), some (.ref 115), some (.int x3)]) (st2 := [.int (x3 + 1), .ref (mBase + 5), .ref 0]) rfl ?_
  refine Ok_ld (l := xs) rfl rfl (fun y242 hy242 => ?_)
  refine Ok_call (y := 142) (as := [.ref 0, .int y242]) (rest := []) (w := fun p243 => some (.int p243.1)) (h1 := fun p243 => HP p243.2 r) rfl rfl (fun x hx => tm_C_driven N d xs c r y242 x hx) (fun p243 hp243 => ?_)
  refine Ok_blk 5 (pc2 := 1255) (lo2 := [some (.ref (mBase + 5)), some (.ref 0), some (.ref 115), some (.int x3)]) (st2 := [.int (x3 + 1), .ref (mBase + 5), .ref 115, .int p243.1]) rfl ?_
  refine Ok_ld (l := xs) rfl rfl (fun y244 hy244 => ?_)
  refine Ok_call (y := 226) (as := [.ref 115, .int y244]) (rest := [.int p243.1]) (w := fun p245 => some (.int p245.1)) (h1 := fun p245 => HP p243.2 p245.2) rfl rfl (fun x hx => tm_R_driven N (d + 12) xs p243.2 r y244 x hx) (fun p245 hp245 => ?_)
  refine Ok_blk 1 (pc2 := (if p243.1 = p245.1 then 1787 else 1262)) (lo2 := [some (.ref (mBase + 5)), some (.ref 0), some (.ref 115), some (.int x3)]) (st2 := []) rfl ?_
  refine Ok_if (fun h246 => ?_) (fun h246 => ?_)
  · refine Ok_drop (lo0 := [some (.ref (mBase + 5)), some (.ref 0), some (.ref 115), some (.int x3)]) ⟨Or.inr rfl, Or.inr rfl, Or.inr rfl, Or.inr rfl, trivial⟩ ?_
    exact t_Law_p1787 N d xs kb18 hb18 p243.2 p245.2 x3
  · refine Ok_blk 1 (pc2 := 1263) (lo2 := [some (.ref (mBase + 5)), some (.ref 0), some (.ref 115), some (.int x3)]) (st2 := [.int 0]) rfl ?_
    exact Ok_rez (Or.inl rfl) rfl rfl
set_option maxHeartbeats 8000000 in
set_option maxRecDepth 100000 in
theorem t_Law_p1264 (N d : Nat) (xs : List Int32) (kb18 : St → St → Int32 → Option (Int32 × St × St)) (hb18 : ∀ (c : St) (r : St) (x3 : Int32), Ok (mBig (mRoL xs) (d + 15)) (mRoL xs) 2 mK264 (fun p : Int32 × St × St => (some (.int p.1), HP p.2.1 p.2.2)) (kb18 c r x3) 18 [some (.ref (mBase + 5)), some (.ref 0), some (.ref 115), some (.int x3)] [] (HP c r)) (c : St) (r : St) (x3 : Int32) : Ok (mBig (mRoL xs) (d + 15)) (mRoL xs) 2 mK264 (fun p : Int32 × St × St => (some (.int p.1), HP p.2.1 p.2.2)) (Law_p1264 N xs kb18 c r x3) 1264 [some (.ref (mBase + 5)), some (.ref 0), some (.ref 115), some (.int x3)] [] (HP c r) := by
  unfold Law_p1264
  refine Ok_blk 5 (pc2 := 1269) (lo2 := [some (.ref (mBase + 5)), some (.ref 0), some (.ref 115), some (.int x3)]) (st2 := [.int (x3 + 1), .ref (mBase + 5), .ref 0]) rfl ?_
  refine Ok_ld (l := xs) rfl rfl (fun y248 hy248 => ?_)
  refine Ok_blk 4 (pc2 := 1274) (lo2 := [some (.ref (mBase + 5)), some (.ref 0), some (.ref 115), some (.int x3)]) (st2 := [.int (x3 + 2), .ref (mBase + 5), .int y248, .ref 0]) rfl ?_
  refine Ok_ld (l := xs) rfl rfl (fun y249 hy249 => ?_)
  refine Ok_call (y := 143) (as := [.ref 0, .int y248, .int y249]) (rest := []) (w := fun p250 => some (.int p250.1)) (h1 := fun p250 => HP p250.2 r) rfl rfl (fun x hx => tm_C_market N (d + 13) xs c r y248 y249 x hx) (fun p250 hp250 => ?_)
  refine Ok_blk 5 (pc2 := 1283) (lo2 := [some (.ref (mBase + 5)), some (.ref 0), some (.ref 115), some (.int x3)]) (st2 := [.int (x3 + 1), .ref (mBase + 5), .ref 115, .int p250.1]) rfl ?_
  refine Ok_ld (l := xs) rfl rfl (fun y251 hy251 => ?_)
  refine Ok_blk 4 (pc2 := 1288) (lo2 := [some (.ref (mBase + 5)), some (.ref 0), some (.ref 115), some (.int x3)]) (st2 := [.int (x3 + 2), .ref (mBase + 5), .int y251, .ref 115, .int p250.1]) rfl ?_
  refine Ok_ld (l := xs) rfl rfl (fun y252 hy252 => ?_)
  refine Ok_call (y := 227) (as := [.ref 115, .int y251, .int y252]) (rest := [.int p250.1]) (w := fun p253 => some (.int p253.1)) (h1 := fun p253 => HP p250.2 p253.2) rfl rfl (fun x hx => tm_R_market N (d + 13) xs p250.2 r y251 y252 x hx) (fun p253 hp253 => ?_)
  refine Ok_blk 1 (pc2 := (if p250.1 = p253.1 then 1787 else 1295)) (lo2 := [some (.ref (mBase + 5)), some (.ref 0), some (.ref 115), some (.int x3)]) (st2 := []) rfl ?_
  refine Ok_if (fun h254 => ?_) (fun h254 => ?_)
  · refine Ok_drop (lo0 := [some (.ref (mBase + 5)), some (.ref 0), some (.ref 115), some (.int x3)]) ⟨Or.inr rfl, Or.inr rfl, Or.inr rfl, Or.inr rfl, trivial⟩ ?_
    exact t_Law_p1787 N d xs kb18 hb18 p250.2 p253.2 x3
  · refine Ok_blk 1 (pc2 := 1296) (lo2 := [some (.ref (mBase + 5)), some (.ref 0), some (.ref 115), some (.int x3)]) (st2 := [.int 0]) rfl ?_
    exact Ok_rez (Or.inl rfl) rfl rfl
set_option maxHeartbeats 8000000 in
set_option maxRecDepth 100000 in
theorem t_Law_p1297 (N d : Nat) (xs : List Int32) (kb18 : St → St → Int32 → Option (Int32 × St × St)) (hb18 : ∀ (c : St) (r : St) (x3 : Int32), Ok (mBig (mRoL xs) (d + 15)) (mRoL xs) 2 mK264 (fun p : Int32 × St × St => (some (.int p.1), HP p.2.1 p.2.2)) (kb18 c r x3) 18 [some (.ref (mBase + 5)), some (.ref 0), some (.ref 115), some (.int x3)] [] (HP c r)) (c : St) (r : St) (x3 : Int32) : Ok (mBig (mRoL xs) (d + 15)) (mRoL xs) 2 mK264 (fun p : Int32 × St × St => (some (.int p.1), HP p.2.1 p.2.2)) (Law_p1297 N xs kb18 c r x3) 1297 [some (.ref (mBase + 5)), some (.ref 0), some (.ref 115), some (.int x3)] [] (HP c r) := by
  unfold Law_p1297
  refine Ok_blk 5 (pc2 := 1302) (lo2 := [some (.ref (mBase + 5)), some (.ref 0), some (.ref 115), some (.int x3)]) (st2 := [.int (x3 + 1), .ref (mBase + 5), .ref 0]) rfl ?_
  refine Ok_ld (l := xs) rfl rfl (fun y256 hy256 => ?_)
  refine Ok_blk 4 (pc2 := 1307) (lo2 := [some (.ref (mBase + 5)), some (.ref 0), some (.ref 115), some (.int x3)]) (st2 := [.int (x3 + 2), .ref (mBase + 5), .int y256, .ref 0]) rfl ?_
  refine Ok_ld (l := xs) rfl rfl (fun y257 hy257 => ?_)
  refine Ok_call (y := 144) (as := [.ref 0, .int y256, .int y257]) (rest := []) (w := fun p258 => some (.int p258.1)) (h1 := fun p258 => HP p258.2 r) rfl rfl (fun x hx => tm_C_seller N (d + 13) xs c r y256 y257 x hx) (fun p258 hp258 => ?_)
  refine Ok_blk 5 (pc2 := 1316) (lo2 := [some (.ref (mBase + 5)), some (.ref 0), some (.ref 115), some (.int x3)]) (st2 := [.int (x3 + 1), .ref (mBase + 5), .ref 115, .int p258.1]) rfl ?_
  refine Ok_ld (l := xs) rfl rfl (fun y259 hy259 => ?_)
  refine Ok_blk 4 (pc2 := 1321) (lo2 := [some (.ref (mBase + 5)), some (.ref 0), some (.ref 115), some (.int x3)]) (st2 := [.int (x3 + 2), .ref (mBase + 5), .int y259, .ref 115, .int p258.1]) rfl ?_
  refine Ok_ld (l := xs) rfl rfl (fun y260 hy260 => ?_)
  refine Ok_call (y := 228) (as := [.ref 115, .int y259, .int y260]) (rest := [.int p258.1]) (w := fun p261 => some (.int p261.1)) (h1 := fun p261 => HP p258.2 p261.2) rfl rfl (fun x hx => tm_R_seller N (d + 13) xs p258.2 r y259 y260 x hx) (fun p261 hp261 => ?_)
  refine Ok_blk 1 (pc2 := (if p258.1 = p261.1 then 1787 else 1328)) (lo2 := [some (.ref (mBase + 5)), some (.ref 0), some (.ref 115), some (.int x3)]) (st2 := []) rfl ?_
  refine Ok_if (fun h262 => ?_) (fun h262 => ?_)
  · refine Ok_drop (lo0 := [some (.ref (mBase + 5)), some (.ref 0), some (.ref 115), some (.int x3)]) ⟨Or.inr rfl, Or.inr rfl, Or.inr rfl, Or.inr rfl, trivial⟩ ?_
    exact t_Law_p1787 N d xs kb18 hb18 p258.2 p261.2 x3
  · refine Ok_blk 1 (pc2 := 1329) (lo2 := [some (.ref (mBase + 5)), some (.ref 0), some (.ref 115), some (.int x3)]) (st2 := [.int 0]) rfl ?_
    exact Ok_rez (Or.inl rfl) rfl rfl
set_option maxHeartbeats 8000000 in
set_option maxRecDepth 100000 in
theorem t_Law_p1330 (N d : Nat) (xs : List Int32) (kb18 : St → St → Int32 → Option (Int32 × St × St)) (hb18 : ∀ (c : St) (r : St) (x3 : Int32), Ok (mBig (mRoL xs) (d + 15)) (mRoL xs) 2 mK264 (fun p : Int32 × St × St => (some (.int p.1), HP p.2.1 p.2.2)) (kb18 c r x3) 18 [some (.ref (mBase + 5)), some (.ref 0), some (.ref 115), some (.int x3)] [] (HP c r)) (c : St) (r : St) (x3 : Int32) : Ok (mBig (mRoL xs) (d + 15)) (mRoL xs) 2 mK264 (fun p : Int32 × St × St => (some (.int p.1), HP p.2.1 p.2.2)) (Law_p1330 N xs kb18 c r x3) 1330 [some (.ref (mBase + 5)), some (.ref 0), some (.ref 115), some (.int x3)] [] (HP c r) := by
  unfold Law_p1330
  refine Ok_blk 5 (pc2 := 1335) (lo2 := [some (.ref (mBase + 5)), some (.ref 0), some (.ref 115), some (.int x3)]) (st2 := [.int (x3 + 1), .ref (mBase + 5), .ref 0]) rfl ?_
  refine Ok_ld (l := xs) rfl rfl (fun y264 hy264 => ?_)
  refine Ok_blk 4 (pc2 := 1340) (lo2 := [some (.ref (mBase + 5)), some (.ref 0), some (.ref 115), some (.int x3)]) (st2 := [.int (x3 + 2), .ref (mBase + 5), .int y264, .ref 0]) rfl ?_
  refine Ok_ld (l := xs) rfl rfl (fun y265 hy265 => ?_)
  refine Ok_call (y := 145) (as := [.ref 0, .int y264, .int y265]) (rest := []) (w := fun p266 => some (.int p266.1)) (h1 := fun p266 => HP p266.2 r) rfl rfl (fun x hx => tm_C_week N (d + 12) xs c r y264 y265 x hx) (fun p266 hp266 => ?_)
  refine Ok_blk 5 (pc2 := 1349) (lo2 := [some (.ref (mBase + 5)), some (.ref 0), some (.ref 115), some (.int x3)]) (st2 := [.int (x3 + 1), .ref (mBase + 5), .ref 115, .int p266.1]) rfl ?_
  refine Ok_ld (l := xs) rfl rfl (fun y267 hy267 => ?_)
  refine Ok_blk 4 (pc2 := 1354) (lo2 := [some (.ref (mBase + 5)), some (.ref 0), some (.ref 115), some (.int x3)]) (st2 := [.int (x3 + 2), .ref (mBase + 5), .int y267, .ref 115, .int p266.1]) rfl ?_
  refine Ok_ld (l := xs) rfl rfl (fun y268 hy268 => ?_)
  refine Ok_call (y := 232) (as := [.ref 115, .int y267, .int y268]) (rest := [.int p266.1]) (w := fun p269 => some (.int p269.1)) (h1 := fun p269 => HP p266.2 p269.2) rfl rfl (fun x hx => tm_R_week N (d + 12) xs p266.2 r y267 y268 x hx) (fun p269 hp269 => ?_)
  refine Ok_blk 1 (pc2 := (if p266.1 = p269.1 then 1787 else 1361)) (lo2 := [some (.ref (mBase + 5)), some (.ref 0), some (.ref 115), some (.int x3)]) (st2 := []) rfl ?_
  refine Ok_if (fun h270 => ?_) (fun h270 => ?_)
  · refine Ok_drop (lo0 := [some (.ref (mBase + 5)), some (.ref 0), some (.ref 115), some (.int x3)]) ⟨Or.inr rfl, Or.inr rfl, Or.inr rfl, Or.inr rfl, trivial⟩ ?_
    exact t_Law_p1787 N d xs kb18 hb18 p266.2 p269.2 x3
  · refine Ok_blk 1 (pc2 := 1362) (lo2 := [some (.ref (mBase + 5)), some (.ref 0), some (.ref 115), some (.int x3)]) (st2 := [.int 0]) rfl ?_
    exact Ok_rez (Or.inl rfl) rfl rfl
set_option maxHeartbeats 8000000 in
set_option maxRecDepth 100000 in
theorem t_Law_p1363 (N d : Nat) (xs : List Int32) (kb18 : St → St → Int32 → Option (Int32 × St × St)) (hb18 : ∀ (c : St) (r : St) (x3 : Int32), Ok (mBig (mRoL xs) (d + 15)) (mRoL xs) 2 mK264 (fun p : Int32 × St × St => (some (.int p.1), HP p.2.1 p.2.2)) (kb18 c r x3) 18 [some (.ref (mBase + 5)), some (.ref 0), some (.ref 115), some (.int x3)] [] (HP c r)) (c : St) (r : St) (x3 : Int32) : Ok (mBig (mRoL xs) (d + 15)) (mRoL xs) 2 mK264 (fun p : Int32 × St × St => (some (.int p.1), HP p.2.1 p.2.2)) (Law_p1363 N xs kb18 c r x3) 1363 [some (.ref (mBase + 5)), some (.ref 0), some (.ref 115), some (.int x3)] [] (HP c r) := by
  unfold Law_p1363
  refine Ok_blk 5 (pc2 := 1368) (lo2 := [some (.ref (mBase + 5)), some (.ref 0), some (.ref 115), some (.int x3)]) (st2 := [.int (x3 + 1), .ref (mBase + 5), .ref 0]) rfl ?_
  refine Ok_ld (l := xs) rfl rfl (fun y272 hy272 => ?_)
  refine Ok_call (y := 146) (as := [.ref 0, .int y272]) (rest := []) (w := fun p273 => some (.int p273.1)) (h1 := fun p273 => HP p273.2 r) rfl rfl (fun x hx => tm_C_turns N (d + 11) xs c r y272 x hx) (fun p273 hp273 => ?_)
  refine Ok_blk 5 (pc2 := 1377) (lo2 := [some (.ref (mBase + 5)), some (.ref 0), some (.ref 115), some (.int x3)]) (st2 := [.int (x3 + 1), .ref (mBase + 5), .ref 115, .int p273.1]) rfl ?_
  refine Ok_ld (l := xs) rfl rfl (fun y274 hy274 => ?_)
  refine Ok_call (y := 234) (as := [.ref 115, .int y274]) (rest := [.int p273.1]) (w := fun p275 => some (.int p275.1)) (h1 := fun p275 => HP p273.2 p275.2) rfl rfl (fun x hx => tm_R_turns N (d + 12) xs p273.2 r y274 x hx) (fun p275 hp275 => ?_)
  refine Ok_blk 1 (pc2 := (if p273.1 = p275.1 then 1787 else 1384)) (lo2 := [some (.ref (mBase + 5)), some (.ref 0), some (.ref 115), some (.int x3)]) (st2 := []) rfl ?_
  refine Ok_if (fun h276 => ?_) (fun h276 => ?_)
  · refine Ok_drop (lo0 := [some (.ref (mBase + 5)), some (.ref 0), some (.ref 115), some (.int x3)]) ⟨Or.inr rfl, Or.inr rfl, Or.inr rfl, Or.inr rfl, trivial⟩ ?_
    exact t_Law_p1787 N d xs kb18 hb18 p273.2 p275.2 x3
  · refine Ok_blk 1 (pc2 := 1385) (lo2 := [some (.ref (mBase + 5)), some (.ref 0), some (.ref 115), some (.int x3)]) (st2 := [.int 0]) rfl ?_
    exact Ok_rez (Or.inl rfl) rfl rfl
set_option maxHeartbeats 8000000 in
set_option maxRecDepth 100000 in
theorem t_Law_p1386 (N d : Nat) (xs : List Int32) (kb18 : St → St → Int32 → Option (Int32 × St × St)) (hb18 : ∀ (c : St) (r : St) (x3 : Int32), Ok (mBig (mRoL xs) (d + 15)) (mRoL xs) 2 mK264 (fun p : Int32 × St × St => (some (.int p.1), HP p.2.1 p.2.2)) (kb18 c r x3) 18 [some (.ref (mBase + 5)), some (.ref 0), some (.ref 115), some (.int x3)] [] (HP c r)) (c : St) (r : St) (x3 : Int32) : Ok (mBig (mRoL xs) (d + 15)) (mRoL xs) 2 mK264 (fun p : Int32 × St × St => (some (.int p.1), HP p.2.1 p.2.2)) (Law_p1386 N xs kb18 c r x3) 1386 [some (.ref (mBase + 5)), some (.ref 0), some (.ref 115), some (.int x3)] [] (HP c r) := by
  unfold Law_p1386
  refine Ok_blk 5 (pc2 := 1391) (lo2 := [some (.ref (mBase + 5)), some (.ref 0), some (.ref 115), some (.int x3)]) (st2 := [.int (x3 + 1), .ref (mBase + 5), .ref 0]) rfl ?_
  refine Ok_ld (l := xs) rfl rfl (fun y278 hy278 => ?_)
  refine Ok_blk 4 (pc2 := 1396) (lo2 := [some (.ref (mBase + 5)), some (.ref 0), some (.ref 115), some (.int x3)]) (st2 := [.int (x3 + 2), .ref (mBase + 5), .int y278, .ref 0]) rfl ?_
  refine Ok_ld (l := xs) rfl rfl (fun y279 hy279 => ?_)
  refine Ok_call (y := 147) (as := [.ref 0, .int y278, .int y279]) (rest := []) (w := fun p280 => some (.int p280.1)) (h1 := fun p280 => HP p280.2 r) rfl rfl (fun x hx => tm_C_farm N (d + 13) xs c r y278 y279 x hx) (fun p280 hp280 => ?_)
  refine Ok_blk 5 (pc2 := 1405) (lo2 := [some (.ref (mBase + 5)), some (.ref 0), some (.ref 115), some (.int x3)]) (st2 := [.int (x3 + 1), .ref (mBase + 5), .ref 115, .int p280.1]) rfl ?_
  refine Ok_ld (l := xs) rfl rfl (fun y281 hy281 => ?_)
  refine Ok_blk 4 (pc2 := 1410) (lo2 := [some (.ref (mBase + 5)), some (.ref 0), some (.ref 115), some (.int x3)]) (st2 := [.int (x3 + 2), .ref (mBase + 5), .int y281, .ref 115, .int p280.1]) rfl ?_
  refine Ok_ld (l := xs) rfl rfl (fun y282 hy282 => ?_)
  refine Ok_call (y := 235) (as := [.ref 115, .int y281, .int y282]) (rest := [.int p280.1]) (w := fun p283 => some (.int p283.1)) (h1 := fun p283 => HP p280.2 p283.2) rfl rfl (fun x hx => tm_R_farm N (d + 13) xs p280.2 r y281 y282 x hx) (fun p283 hp283 => ?_)
  refine Ok_blk 1 (pc2 := (if p280.1 = p283.1 then 1787 else 1417)) (lo2 := [some (.ref (mBase + 5)), some (.ref 0), some (.ref 115), some (.int x3)]) (st2 := []) rfl ?_
  refine Ok_if (fun h284 => ?_) (fun h284 => ?_)
  · refine Ok_drop (lo0 := [some (.ref (mBase + 5)), some (.ref 0), some (.ref 115), some (.int x3)]) ⟨Or.inr rfl, Or.inr rfl, Or.inr rfl, Or.inr rfl, trivial⟩ ?_
    exact t_Law_p1787 N d xs kb18 hb18 p280.2 p283.2 x3
  · refine Ok_blk 1 (pc2 := 1418) (lo2 := [some (.ref (mBase + 5)), some (.ref 0), some (.ref 115), some (.int x3)]) (st2 := [.int 0]) rfl ?_
    exact Ok_rez (Or.inl rfl) rfl rfl
set_option maxHeartbeats 8000000 in
set_option maxRecDepth 100000 in
theorem t_Law_p1419 (N d : Nat) (xs : List Int32) (kb18 : St → St → Int32 → Option (Int32 × St × St)) (hb18 : ∀ (c : St) (r : St) (x3 : Int32), Ok (mBig (mRoL xs) (d + 15)) (mRoL xs) 2 mK264 (fun p : Int32 × St × St => (some (.int p.1), HP p.2.1 p.2.2)) (kb18 c r x3) 18 [some (.ref (mBase + 5)), some (.ref 0), some (.ref 115), some (.int x3)] [] (HP c r)) (c : St) (r : St) (x3 : Int32) : Ok (mBig (mRoL xs) (d + 15)) (mRoL xs) 2 mK264 (fun p : Int32 × St × St => (some (.int p.1), HP p.2.1 p.2.2)) (Law_p1419 N xs kb18 c r x3) 1419 [some (.ref (mBase + 5)), some (.ref 0), some (.ref 115), some (.int x3)] [] (HP c r) := by
  unfold Law_p1419
  refine Ok_blk 5 (pc2 := 1424) (lo2 := [some (.ref (mBase + 5)), some (.ref 0), some (.ref 115), some (.int x3)]) (st2 := [.int (x3 + 1), .ref (mBase + 5), .ref 0]) rfl ?_
  refine Ok_ld (l := xs) rfl rfl (fun y286 hy286 => ?_)
  refine Ok_blk 4 (pc2 := 1429) (lo2 := [some (.ref (mBase + 5)), some (.ref 0), some (.ref 115), some (.int x3)]) (st2 := [.int (x3 + 2), .ref (mBase + 5), .int y286, .ref 0]) rfl ?_
  refine Ok_ld (l := xs) rfl rfl (fun y287 hy287 => ?_)
  refine Ok_blk 4 (pc2 := 1434) (lo2 := [some (.ref (mBase + 5)), some (.ref 0), some (.ref 115), some (.int x3)]) (st2 := [.int (x3 + 3), .ref (mBase + 5), .int y287, .int y286, .ref 0]) rfl ?_
  refine Ok_ld (l := xs) rfl rfl (fun y288 hy288 => ?_)
  refine Ok_call (y := 148) (as := [.ref 0, .int y286, .int y287, .int y288]) (rest := []) (w := fun p289 => some (.int p289.1)) (h1 := fun p289 => HP p289.2 r) rfl rfl (fun x hx => tm_C_owe N (d + 12) xs c r y286 y287 y288 x hx) (fun p289 hp289 => ?_)
  refine Ok_blk 5 (pc2 := 1443) (lo2 := [some (.ref (mBase + 5)), some (.ref 0), some (.ref 115), some (.int x3)]) (st2 := [.int (x3 + 1), .ref (mBase + 5), .ref 115, .int p289.1]) rfl ?_
  refine Ok_ld (l := xs) rfl rfl (fun y290 hy290 => ?_)
  refine Ok_blk 4 (pc2 := 1448) (lo2 := [some (.ref (mBase + 5)), some (.ref 0), some (.ref 115), some (.int x3)]) (st2 := [.int (x3 + 2), .ref (mBase + 5), .int y290, .ref 115, .int p289.1]) rfl ?_
  refine Ok_ld (l := xs) rfl rfl (fun y291 hy291 => ?_)
  refine Ok_blk 4 (pc2 := 1453) (lo2 := [some (.ref (mBase + 5)), some (.ref 0), some (.ref 115), some (.int x3)]) (st2 := [.int (x3 + 3), .ref (mBase + 5), .int y291, .int y290, .ref 115, .int p289.1]) rfl ?_
  refine Ok_ld (l := xs) rfl rfl (fun y292 hy292 => ?_)
  refine Ok_call (y := 236) (as := [.ref 115, .int y290, .int y291, .int y292]) (rest := [.int p289.1]) (w := fun p293 => some (.int p293.1)) (h1 := fun p293 => HP p289.2 p293.2) rfl rfl (fun x hx => tm_R_owe N (d + 13) xs p289.2 r y290 y291 y292 x hx) (fun p293 hp293 => ?_)
  refine Ok_blk 1 (pc2 := (if p289.1 = p293.1 then 1787 else 1460)) (lo2 := [some (.ref (mBase + 5)), some (.ref 0), some (.ref 115), some (.int x3)]) (st2 := []) rfl ?_
  refine Ok_if (fun h294 => ?_) (fun h294 => ?_)
  · refine Ok_drop (lo0 := [some (.ref (mBase + 5)), some (.ref 0), some (.ref 115), some (.int x3)]) ⟨Or.inr rfl, Or.inr rfl, Or.inr rfl, Or.inr rfl, trivial⟩ ?_
    exact t_Law_p1787 N d xs kb18 hb18 p289.2 p293.2 x3
  · refine Ok_blk 1 (pc2 := 1461) (lo2 := [some (.ref (mBase + 5)), some (.ref 0), some (.ref 115), some (.int x3)]) (st2 := [.int 0]) rfl ?_
    exact Ok_rez (Or.inl rfl) rfl rfl
set_option maxHeartbeats 8000000 in
set_option maxRecDepth 100000 in
theorem t_Law_p1462 (N d : Nat) (xs : List Int32) (kb18 : St → St → Int32 → Option (Int32 × St × St)) (hb18 : ∀ (c : St) (r : St) (x3 : Int32), Ok (mBig (mRoL xs) (d + 15)) (mRoL xs) 2 mK264 (fun p : Int32 × St × St => (some (.int p.1), HP p.2.1 p.2.2)) (kb18 c r x3) 18 [some (.ref (mBase + 5)), some (.ref 0), some (.ref 115), some (.int x3)] [] (HP c r)) (c : St) (r : St) (x3 : Int32) : Ok (mBig (mRoL xs) (d + 15)) (mRoL xs) 2 mK264 (fun p : Int32 × St × St => (some (.int p.1), HP p.2.1 p.2.2)) (Law_p1462 N xs kb18 c r x3) 1462 [some (.ref (mBase + 5)), some (.ref 0), some (.ref 115), some (.int x3)] [] (HP c r) := by
  unfold Law_p1462
  refine Ok_blk 5 (pc2 := 1467) (lo2 := [some (.ref (mBase + 5)), some (.ref 0), some (.ref 115), some (.int x3)]) (st2 := [.int (x3 + 1), .ref (mBase + 5), .ref 0]) rfl ?_
  refine Ok_ld (l := xs) rfl rfl (fun y296 hy296 => ?_)
  refine Ok_blk 4 (pc2 := 1472) (lo2 := [some (.ref (mBase + 5)), some (.ref 0), some (.ref 115), some (.int x3)]) (st2 := [.int (x3 + 2), .ref (mBase + 5), .int y296, .ref 0]) rfl ?_
  refine Ok_ld (l := xs) rfl rfl (fun y297 hy297 => ?_)
  refine Ok_call (y := 149) (as := [.ref 0, .int y296, .int y297]) (rest := []) (w := fun p298 => some (.int p298.1)) (h1 := fun p298 => HP p298.2 r) rfl rfl (fun x hx => tm_C_falls N (d + 11) xs c r y296 y297 x hx) (fun p298 hp298 => ?_)
  refine Ok_blk 5 (pc2 := 1481) (lo2 := [some (.ref (mBase + 5)), some (.ref 0), some (.ref 115), some (.int x3)]) (st2 := [.int (x3 + 1), .ref (mBase + 5), .ref 115, .int p298.1]) rfl ?_
  refine Ok_ld (l := xs) rfl rfl (fun y299 hy299 => ?_)
  refine Ok_blk 4 (pc2 := 1486) (lo2 := [some (.ref (mBase + 5)), some (.ref 0), some (.ref 115), some (.int x3)]) (st2 := [.int (x3 + 2), .ref (mBase + 5), .int y299, .ref 115, .int p298.1]) rfl ?_
  refine Ok_ld (l := xs) rfl rfl (fun y300 hy300 => ?_)
  refine Ok_call (y := 238) (as := [.ref 115, .int y299, .int y300]) (rest := [.int p298.1]) (w := fun p301 => some (.int p301.1)) (h1 := fun p301 => HP p298.2 p301.2) rfl rfl (fun x hx => tm_R_falls N (d + 13) xs p298.2 r y299 y300 x hx) (fun p301 hp301 => ?_)
  refine Ok_blk 1 (pc2 := (if p298.1 = p301.1 then 1787 else 1493)) (lo2 := [some (.ref (mBase + 5)), some (.ref 0), some (.ref 115), some (.int x3)]) (st2 := []) rfl ?_
  refine Ok_if (fun h302 => ?_) (fun h302 => ?_)
  · refine Ok_drop (lo0 := [some (.ref (mBase + 5)), some (.ref 0), some (.ref 115), some (.int x3)]) ⟨Or.inr rfl, Or.inr rfl, Or.inr rfl, Or.inr rfl, trivial⟩ ?_
    exact t_Law_p1787 N d xs kb18 hb18 p298.2 p301.2 x3
  · refine Ok_blk 1 (pc2 := 1494) (lo2 := [some (.ref (mBase + 5)), some (.ref 0), some (.ref 115), some (.int x3)]) (st2 := [.int 0]) rfl ?_
    exact Ok_rez (Or.inl rfl) rfl rfl
set_option maxHeartbeats 8000000 in
set_option maxRecDepth 100000 in
theorem t_Law_p1495 (N d : Nat) (xs : List Int32) (kb18 : St → St → Int32 → Option (Int32 × St × St)) (hb18 : ∀ (c : St) (r : St) (x3 : Int32), Ok (mBig (mRoL xs) (d + 15)) (mRoL xs) 2 mK264 (fun p : Int32 × St × St => (some (.int p.1), HP p.2.1 p.2.2)) (kb18 c r x3) 18 [some (.ref (mBase + 5)), some (.ref 0), some (.ref 115), some (.int x3)] [] (HP c r)) (c : St) (r : St) (x3 : Int32) : Ok (mBig (mRoL xs) (d + 15)) (mRoL xs) 2 mK264 (fun p : Int32 × St × St => (some (.int p.1), HP p.2.1 p.2.2)) (Law_p1495 N xs kb18 c r x3) 1495 [some (.ref (mBase + 5)), some (.ref 0), some (.ref 115), some (.int x3)] [] (HP c r) := by
  unfold Law_p1495
  refine Ok_blk 5 (pc2 := 1500) (lo2 := [some (.ref (mBase + 5)), some (.ref 0), some (.ref 115), some (.int x3)]) (st2 := [.int (x3 + 1), .ref (mBase + 5), .ref 0]) rfl ?_
  refine Ok_ld (l := xs) rfl rfl (fun y304 hy304 => ?_)
  refine Ok_call (y := 150) (as := [.ref 0, .int y304]) (rest := []) (w := fun p305 => some (.int p305.1)) (h1 := fun p305 => HP p305.2 r) rfl rfl (fun x hx => tm_C_safe N (d + 10) xs c r y304 x hx) (fun p305 hp305 => ?_)
  refine Ok_blk 5 (pc2 := 1509) (lo2 := [some (.ref (mBase + 5)), some (.ref 0), some (.ref 115), some (.int x3)]) (st2 := [.int (x3 + 1), .ref (mBase + 5), .ref 115, .int p305.1]) rfl ?_
  refine Ok_ld (l := xs) rfl rfl (fun y306 hy306 => ?_)
  refine Ok_call (y := 239) (as := [.ref 115, .int y306]) (rest := [.int p305.1]) (w := fun p307 => some (.int p307.1)) (h1 := fun p307 => HP p305.2 p307.2) rfl rfl (fun x hx => tm_R_safe N (d + 13) xs p305.2 r y306 x hx) (fun p307 hp307 => ?_)
  refine Ok_blk 1 (pc2 := (if p305.1 = p307.1 then 1787 else 1516)) (lo2 := [some (.ref (mBase + 5)), some (.ref 0), some (.ref 115), some (.int x3)]) (st2 := []) rfl ?_
  refine Ok_if (fun h308 => ?_) (fun h308 => ?_)
  · refine Ok_drop (lo0 := [some (.ref (mBase + 5)), some (.ref 0), some (.ref 115), some (.int x3)]) ⟨Or.inr rfl, Or.inr rfl, Or.inr rfl, Or.inr rfl, trivial⟩ ?_
    exact t_Law_p1787 N d xs kb18 hb18 p305.2 p307.2 x3
  · refine Ok_blk 1 (pc2 := 1517) (lo2 := [some (.ref (mBase + 5)), some (.ref 0), some (.ref 115), some (.int x3)]) (st2 := [.int 0]) rfl ?_
    exact Ok_rez (Or.inl rfl) rfl rfl
set_option maxHeartbeats 8000000 in
set_option maxRecDepth 100000 in
theorem t_Law_p1518 (N d : Nat) (xs : List Int32) (kb18 : St → St → Int32 → Option (Int32 × St × St)) (hb18 : ∀ (c : St) (r : St) (x3 : Int32), Ok (mBig (mRoL xs) (d + 15)) (mRoL xs) 2 mK264 (fun p : Int32 × St × St => (some (.int p.1), HP p.2.1 p.2.2)) (kb18 c r x3) 18 [some (.ref (mBase + 5)), some (.ref 0), some (.ref 115), some (.int x3)] [] (HP c r)) (c : St) (r : St) (x3 : Int32) : Ok (mBig (mRoL xs) (d + 15)) (mRoL xs) 2 mK264 (fun p : Int32 × St × St => (some (.int p.1), HP p.2.1 p.2.2)) (Law_p1518 N xs kb18 c r x3) 1518 [some (.ref (mBase + 5)), some (.ref 0), some (.ref 115), some (.int x3)] [] (HP c r) := by
  unfold Law_p1518
  refine Ok_blk 5 (pc2 := 1523) (lo2 := [some (.ref (mBase + 5)), some (.ref 0), some (.ref 115), some (.int x3)]) (st2 := [.int (x3 + 1), .ref (mBase + 5), .ref 0]) rfl ?_
  refine Ok_ld (l := xs) rfl rfl (fun y310 hy310 => ?_)
  refine Ok_blk 4 (pc2 := 1528) (lo2 := [some (.ref (mBase + 5)), some (.ref 0), some (.ref 115), some (.int x3)]) (st2 := [.int (x3 + 2), .ref (mBase + 5), .int y310, .ref 0]) rfl ?_
  refine Ok_ld (l := xs) rfl rfl (fun y311 hy311 => ?_)
  refine Ok_call (y := 151) (as := [.ref 0, .int y310, .int y311]) (rest := []) (w := fun p312 => some (.int p312.1)) (h1 := fun p312 => HP p312.2 r) rfl rfl (fun x hx => tm_C_line N (d + 13) xs c r y310 y311 x hx) (fun p312 hp312 => ?_)
  refine Ok_blk 5 (pc2 := 1537) (lo2 := [some (.ref (mBase + 5)), some (.ref 0), some (.ref 115), some (.int x3)]) (st2 := [.int (x3 + 1), .ref (mBase + 5), .ref 115, .int p312.1]) rfl ?_
  refine Ok_ld (l := xs) rfl rfl (fun y313 hy313 => ?_)
  refine Ok_blk 4 (pc2 := 1542) (lo2 := [some (.ref (mBase + 5)), some (.ref 0), some (.ref 115), some (.int x3)]) (st2 := [.int (x3 + 2), .ref (mBase + 5), .int y313, .ref 115, .int p312.1]) rfl ?_
  refine Ok_ld (l := xs) rfl rfl (fun y314 hy314 => ?_)
  refine Ok_call (y := 240) (as := [.ref 115, .int y313, .int y314]) (rest := [.int p312.1]) (w := fun p315 => some (.int p315.1)) (h1 := fun p315 => HP p312.2 p315.2) rfl rfl (fun x hx => tm_R_line N (d + 13) xs p312.2 r y313 y314 x hx) (fun p315 hp315 => ?_)
  refine Ok_blk 1 (pc2 := (if p312.1 = p315.1 then 1787 else 1549)) (lo2 := [some (.ref (mBase + 5)), some (.ref 0), some (.ref 115), some (.int x3)]) (st2 := []) rfl ?_
  refine Ok_if (fun h316 => ?_) (fun h316 => ?_)
  · refine Ok_drop (lo0 := [some (.ref (mBase + 5)), some (.ref 0), some (.ref 115), some (.int x3)]) ⟨Or.inr rfl, Or.inr rfl, Or.inr rfl, Or.inr rfl, trivial⟩ ?_
    exact t_Law_p1787 N d xs kb18 hb18 p312.2 p315.2 x3
  · refine Ok_blk 1 (pc2 := 1550) (lo2 := [some (.ref (mBase + 5)), some (.ref 0), some (.ref 115), some (.int x3)]) (st2 := [.int 0]) rfl ?_
    exact Ok_rez (Or.inl rfl) rfl rfl
set_option maxHeartbeats 8000000 in
set_option maxRecDepth 100000 in
theorem t_Law_p1551 (N d : Nat) (xs : List Int32) (kb18 : St → St → Int32 → Option (Int32 × St × St)) (hb18 : ∀ (c : St) (r : St) (x3 : Int32), Ok (mBig (mRoL xs) (d + 15)) (mRoL xs) 2 mK264 (fun p : Int32 × St × St => (some (.int p.1), HP p.2.1 p.2.2)) (kb18 c r x3) 18 [some (.ref (mBase + 5)), some (.ref 0), some (.ref 115), some (.int x3)] [] (HP c r)) (c : St) (r : St) (x3 : Int32) : Ok (mBig (mRoL xs) (d + 15)) (mRoL xs) 2 mK264 (fun p : Int32 × St × St => (some (.int p.1), HP p.2.1 p.2.2)) (Law_p1551 N xs kb18 c r x3) 1551 [some (.ref (mBase + 5)), some (.ref 0), some (.ref 115), some (.int x3)] [] (HP c r) := by
  unfold Law_p1551
  refine Ok_blk 5 (pc2 := 1556) (lo2 := [some (.ref (mBase + 5)), some (.ref 0), some (.ref 115), some (.int x3)]) (st2 := [.int (x3 + 1), .ref (mBase + 5), .ref 0]) rfl ?_
  refine Ok_ld (l := xs) rfl rfl (fun y318 hy318 => ?_)
  refine Ok_blk 4 (pc2 := 1561) (lo2 := [some (.ref (mBase + 5)), some (.ref 0), some (.ref 115), some (.int x3)]) (st2 := [.int (x3 + 2), .ref (mBase + 5), .int y318, .ref 0]) rfl ?_
  refine Ok_ld (l := xs) rfl rfl (fun y319 hy319 => ?_)
  refine Ok_call (y := 152) (as := [.ref 0, .int y318, .int y319]) (rest := []) (w := fun p320 => some (.int p320.1)) (h1 := fun p320 => HP p320.2 r) rfl rfl (fun x hx => tm_C_ring N (d + 13) xs c r y318 y319 x hx) (fun p320 hp320 => ?_)
  refine Ok_blk 5 (pc2 := 1570) (lo2 := [some (.ref (mBase + 5)), some (.ref 0), some (.ref 115), some (.int x3)]) (st2 := [.int (x3 + 1), .ref (mBase + 5), .ref 115, .int p320.1]) rfl ?_
  refine Ok_ld (l := xs) rfl rfl (fun y321 hy321 => ?_)
  refine Ok_blk 4 (pc2 := 1575) (lo2 := [some (.ref (mBase + 5)), some (.ref 0), some (.ref 115), some (.int x3)]) (st2 := [.int (x3 + 2), .ref (mBase + 5), .int y321, .ref 115, .int p320.1]) rfl ?_
  refine Ok_ld (l := xs) rfl rfl (fun y322 hy322 => ?_)
  refine Ok_call (y := 241) (as := [.ref 115, .int y321, .int y322]) (rest := [.int p320.1]) (w := fun p323 => some (.int p323.1)) (h1 := fun p323 => HP p320.2 p323.2) rfl rfl (fun x hx => tm_R_ring N (d + 13) xs p320.2 r y321 y322 x hx) (fun p323 hp323 => ?_)
  refine Ok_blk 1 (pc2 := (if p320.1 = p323.1 then 1787 else 1582)) (lo2 := [some (.ref (mBase + 5)), some (.ref 0), some (.ref 115), some (.int x3)]) (st2 := []) rfl ?_
  refine Ok_if (fun h324 => ?_) (fun h324 => ?_)
  · refine Ok_drop (lo0 := [some (.ref (mBase + 5)), some (.ref 0), some (.ref 115), some (.int x3)]) ⟨Or.inr rfl, Or.inr rfl, Or.inr rfl, Or.inr rfl, trivial⟩ ?_
    exact t_Law_p1787 N d xs kb18 hb18 p320.2 p323.2 x3
  · refine Ok_blk 1 (pc2 := 1583) (lo2 := [some (.ref (mBase + 5)), some (.ref 0), some (.ref 115), some (.int x3)]) (st2 := [.int 0]) rfl ?_
    exact Ok_rez (Or.inl rfl) rfl rfl
set_option maxHeartbeats 8000000 in
set_option maxRecDepth 100000 in
theorem t_Law_p1584 (N d : Nat) (xs : List Int32) (kb18 : St → St → Int32 → Option (Int32 × St × St)) (hb18 : ∀ (c : St) (r : St) (x3 : Int32), Ok (mBig (mRoL xs) (d + 15)) (mRoL xs) 2 mK264 (fun p : Int32 × St × St => (some (.int p.1), HP p.2.1 p.2.2)) (kb18 c r x3) 18 [some (.ref (mBase + 5)), some (.ref 0), some (.ref 115), some (.int x3)] [] (HP c r)) (c : St) (r : St) (x3 : Int32) : Ok (mBig (mRoL xs) (d + 15)) (mRoL xs) 2 mK264 (fun p : Int32 × St × St => (some (.int p.1), HP p.2.1 p.2.2)) (Law_p1584 N xs kb18 c r x3) 1584 [some (.ref (mBase + 5)), some (.ref 0), some (.ref 115), some (.int x3)] [] (HP c r) := by
  unfold Law_p1584
  refine Ok_blk 5 (pc2 := 1589) (lo2 := [some (.ref (mBase + 5)), some (.ref 0), some (.ref 115), some (.int x3)]) (st2 := [.int (x3 + 1), .ref (mBase + 5), .ref 0]) rfl ?_
  refine Ok_ld (l := xs) rfl rfl (fun y326 hy326 => ?_)
  refine Ok_blk 4 (pc2 := 1594) (lo2 := [some (.ref (mBase + 5)), some (.ref 0), some (.ref 115), some (.int x3)]) (st2 := [.int (x3 + 2), .ref (mBase + 5), .int y326, .ref 0]) rfl ?_
  refine Ok_ld (l := xs) rfl rfl (fun y327 hy327 => ?_)
  refine Ok_call (y := 153) (as := [.ref 0, .int y326, .int y327]) (rest := []) (w := fun p328 => some (.long p328)) (h1 := fun p328 => HP c r) rfl rfl (fun x hx => tm_C_earns N (d + 11) xs c r y326 y327 x hx) (fun p328 hp328 => ?_)
  refine Ok_blk 5 (pc2 := 1603) (lo2 := [some (.ref (mBase + 5)), some (.ref 0), some (.ref 115), some (.int x3)]) (st2 := [.int (x3 + 1), .ref (mBase + 5), .ref 115, .long p328]) rfl ?_
  refine Ok_ld (l := xs) rfl rfl (fun y329 hy329 => ?_)
  refine Ok_blk 4 (pc2 := 1608) (lo2 := [some (.ref (mBase + 5)), some (.ref 0), some (.ref 115), some (.int x3)]) (st2 := [.int (x3 + 2), .ref (mBase + 5), .int y329, .ref 115, .long p328]) rfl ?_
  refine Ok_ld (l := xs) rfl rfl (fun y330 hy330 => ?_)
  refine Ok_call (y := 244) (as := [.ref 115, .int y329, .int y330]) (rest := [.long p328]) (w := fun p331 => some (.long p331)) (h1 := fun p331 => HP c r) rfl rfl (fun x hx => tm_R_earns N (d + 12) xs c r y329 y330 x hx) (fun p331 hp331 => ?_)
  refine Ok_blk 2 (pc2 := (if (mLc p328 p331) = 0 then 1787 else 1616)) (lo2 := [some (.ref (mBase + 5)), some (.ref 0), some (.ref 115), some (.int x3)]) (st2 := []) rfl ?_
  refine Ok_if (fun h332 => ?_) (fun h332 => ?_)
  · refine Ok_drop (lo0 := [some (.ref (mBase + 5)), some (.ref 0), some (.ref 115), some (.int x3)]) ⟨Or.inr rfl, Or.inr rfl, Or.inr rfl, Or.inr rfl, trivial⟩ ?_
    exact t_Law_p1787 N d xs kb18 hb18 c r x3
  · refine Ok_blk 1 (pc2 := 1617) (lo2 := [some (.ref (mBase + 5)), some (.ref 0), some (.ref 115), some (.int x3)]) (st2 := [.int 0]) rfl ?_
    exact Ok_rez (Or.inl rfl) rfl rfl
set_option maxHeartbeats 8000000 in
set_option maxRecDepth 100000 in
theorem t_Law_p1618 (N d : Nat) (xs : List Int32) (kb18 : St → St → Int32 → Option (Int32 × St × St)) (hb18 : ∀ (c : St) (r : St) (x3 : Int32), Ok (mBig (mRoL xs) (d + 15)) (mRoL xs) 2 mK264 (fun p : Int32 × St × St => (some (.int p.1), HP p.2.1 p.2.2)) (kb18 c r x3) 18 [some (.ref (mBase + 5)), some (.ref 0), some (.ref 115), some (.int x3)] [] (HP c r)) (c : St) (r : St) (x3 : Int32) : Ok (mBig (mRoL xs) (d + 15)) (mRoL xs) 2 mK264 (fun p : Int32 × St × St => (some (.int p.1), HP p.2.1 p.2.2)) (Law_p1618 N xs kb18 c r x3) 1618 [some (.ref (mBase + 5)), some (.ref 0), some (.ref 115), some (.int x3)] [] (HP c r) := by
  unfold Law_p1618
  refine Ok_blk 5 (pc2 := 1623) (lo2 := [some (.ref (mBase + 5)), some (.ref 0), some (.ref 115), some (.int x3)]) (st2 := [.int (x3 + 1), .ref (mBase + 5), .ref 0]) rfl ?_
  refine Ok_ld (l := xs) rfl rfl (fun y334 hy334 => ?_)
  refine Ok_call (y := 154) (as := [.ref 0, .int y334]) (rest := []) (w := fun p335 => some (.int p335)) (h1 := fun p335 => HP c r) rfl rfl (fun x hx => tm_C_stable N (d + 9) xs c r y334 x hx) (fun p335 hp335 => ?_)
  refine Ok_blk 5 (pc2 := 1632) (lo2 := [some (.ref (mBase + 5)), some (.ref 0), some (.ref 115), some (.int x3)]) (st2 := [.int (x3 + 1), .ref (mBase + 5), .ref 115, .int p335]) rfl ?_
  refine Ok_ld (l := xs) rfl rfl (fun y336 hy336 => ?_)
  refine Ok_call (y := 246) (as := [.ref 115, .int y336]) (rest := [.int p335]) (w := fun p337 => some (.int p337)) (h1 := fun p337 => HP c r) rfl rfl (fun x hx => tm_R_stable N (d + 11) xs c r y336 x hx) (fun p337 hp337 => ?_)
  refine Ok_blk 1 (pc2 := (if p335 = p337 then 1787 else 1639)) (lo2 := [some (.ref (mBase + 5)), some (.ref 0), some (.ref 115), some (.int x3)]) (st2 := []) rfl ?_
  refine Ok_if (fun h338 => ?_) (fun h338 => ?_)
  · refine Ok_drop (lo0 := [some (.ref (mBase + 5)), some (.ref 0), some (.ref 115), some (.int x3)]) ⟨Or.inr rfl, Or.inr rfl, Or.inr rfl, Or.inr rfl, trivial⟩ ?_
    exact t_Law_p1787 N d xs kb18 hb18 c r x3
  · refine Ok_blk 1 (pc2 := 1640) (lo2 := [some (.ref (mBase + 5)), some (.ref 0), some (.ref 115), some (.int x3)]) (st2 := [.int 0]) rfl ?_
    exact Ok_rez (Or.inl rfl) rfl rfl
set_option maxHeartbeats 8000000 in
set_option maxRecDepth 100000 in
theorem t_Law_p1641 (N d : Nat) (xs : List Int32) (kb18 : St → St → Int32 → Option (Int32 × St × St)) (hb18 : ∀ (c : St) (r : St) (x3 : Int32), Ok (mBig (mRoL xs) (d + 15)) (mRoL xs) 2 mK264 (fun p : Int32 × St × St => (some (.int p.1), HP p.2.1 p.2.2)) (kb18 c r x3) 18 [some (.ref (mBase + 5)), some (.ref 0), some (.ref 115), some (.int x3)] [] (HP c r)) (c : St) (r : St) (x3 : Int32) : Ok (mBig (mRoL xs) (d + 15)) (mRoL xs) 2 mK264 (fun p : Int32 × St × St => (some (.int p.1), HP p.2.1 p.2.2)) (Law_p1641 N xs kb18 c r x3) 1641 [some (.ref (mBase + 5)), some (.ref 0), some (.ref 115), some (.int x3)] [] (HP c r) := by
  unfold Law_p1641
  refine Ok_blk 5 (pc2 := 1646) (lo2 := [some (.ref (mBase + 5)), some (.ref 0), some (.ref 115), some (.int x3)]) (st2 := [.int (x3 + 1), .ref (mBase + 5), .ref 0]) rfl ?_
  refine Ok_ld (l := xs) rfl rfl (fun y340 hy340 => ?_)
  refine Ok_call (y := 155) (as := [.ref 0, .int y340]) (rest := []) (w := fun p341 => some (.int p341.1)) (h1 := fun p341 => HP p341.2 r) rfl rfl (fun x hx => tm_C_choice N (d + 13) xs c r y340 x hx) (fun p341 hp341 => ?_)
  refine Ok_blk 5 (pc2 := 1655) (lo2 := [some (.ref (mBase + 5)), some (.ref 0), some (.ref 115), some (.int x3)]) (st2 := [.int (x3 + 1), .ref (mBase + 5), .ref 115, .int p341.1]) rfl ?_
  refine Ok_ld (l := xs) rfl rfl (fun y342 hy342 => ?_)
  refine Ok_call (y := 247) (as := [.ref 115, .int y342]) (rest := [.int p341.1]) (w := fun p343 => some (.int p343.1)) (h1 := fun p343 => HP p341.2 p343.2) rfl rfl (fun x hx => tm_R_choice N (d + 13) xs p341.2 r y342 x hx) (fun p343 hp343 => ?_)
  refine Ok_blk 1 (pc2 := (if p341.1 = p343.1 then 1787 else 1662)) (lo2 := [some (.ref (mBase + 5)), some (.ref 0), some (.ref 115), some (.int x3)]) (st2 := []) rfl ?_
  refine Ok_if (fun h344 => ?_) (fun h344 => ?_)
  · refine Ok_drop (lo0 := [some (.ref (mBase + 5)), some (.ref 0), some (.ref 115), some (.int x3)]) ⟨Or.inr rfl, Or.inr rfl, Or.inr rfl, Or.inr rfl, trivial⟩ ?_
    exact t_Law_p1787 N d xs kb18 hb18 p341.2 p343.2 x3
  · refine Ok_blk 1 (pc2 := 1663) (lo2 := [some (.ref (mBase + 5)), some (.ref 0), some (.ref 115), some (.int x3)]) (st2 := [.int 0]) rfl ?_
    exact Ok_rez (Or.inl rfl) rfl rfl
set_option maxHeartbeats 8000000 in
set_option maxRecDepth 100000 in
theorem t_Law_p1664 (N d : Nat) (xs : List Int32) (kb18 : St → St → Int32 → Option (Int32 × St × St)) (hb18 : ∀ (c : St) (r : St) (x3 : Int32), Ok (mBig (mRoL xs) (d + 15)) (mRoL xs) 2 mK264 (fun p : Int32 × St × St => (some (.int p.1), HP p.2.1 p.2.2)) (kb18 c r x3) 18 [some (.ref (mBase + 5)), some (.ref 0), some (.ref 115), some (.int x3)] [] (HP c r)) (c : St) (r : St) (x3 : Int32) : Ok (mBig (mRoL xs) (d + 15)) (mRoL xs) 2 mK264 (fun p : Int32 × St × St => (some (.int p.1), HP p.2.1 p.2.2)) (Law_p1664 N xs kb18 c r x3) 1664 [some (.ref (mBase + 5)), some (.ref 0), some (.ref 115), some (.int x3)] [] (HP c r) := by
  unfold Law_p1664
  refine Ok_blk 5 (pc2 := 1669) (lo2 := [some (.ref (mBase + 5)), some (.ref 0), some (.ref 115), some (.int x3)]) (st2 := [.int (x3 + 1), .ref (mBase + 5), .ref 0]) rfl ?_
  refine Ok_ld (l := xs) rfl rfl (fun y346 hy346 => ?_)
  refine Ok_blk 4 (pc2 := 1674) (lo2 := [some (.ref (mBase + 5)), some (.ref 0), some (.ref 115), some (.int x3)]) (st2 := [.int (x3 + 2), .ref (mBase + 5), .int y346, .ref 0]) rfl ?_
  refine Ok_ld (l := xs) rfl rfl (fun y347 hy347 => ?_)
  refine Ok_blk 4 (pc2 := 1679) (lo2 := [some (.ref (mBase + 5)), some (.ref 0), some (.ref 115), some (.int x3)]) (st2 := [.int (x3 + 3), .ref (mBase + 5), .int y347, .int y346, .ref 0]) rfl ?_
  refine Ok_ld (l := xs) rfl rfl (fun y348 hy348 => ?_)
  refine Ok_call (y := 156) (as := [.ref 0, .int y346, .int y347, .int y348]) (rest := []) (w := fun p349 => some (.int p349.1)) (h1 := fun p349 => HP p349.2 r) rfl rfl (fun x hx => tm_C_gives N (d + 13) xs c r y346 y347 y348 x hx) (fun p349 hp349 => ?_)
  refine Ok_blk 5 (pc2 := 1688) (lo2 := [some (.ref (mBase + 5)), some (.ref 0), some (.ref 115), some (.int x3)]) (st2 := [.int (x3 + 1), .ref (mBase + 5), .ref 115, .int p349.1]) rfl ?_
  refine Ok_ld (l := xs) rfl rfl (fun y350 hy350 => ?_)
  refine Ok_blk 4 (pc2 := 1693) (lo2 := [some (.ref (mBase + 5)), some (.ref 0), some (.ref 115), some (.int x3)]) (st2 := [.int (x3 + 2), .ref (mBase + 5), .int y350, .ref 115, .int p349.1]) rfl ?_
  refine Ok_ld (l := xs) rfl rfl (fun y351 hy351 => ?_)
  refine Ok_blk 4 (pc2 := 1698) (lo2 := [some (.ref (mBase + 5)), some (.ref 0), some (.ref 115), some (.int x3)]) (st2 := [.int (x3 + 3), .ref (mBase + 5), .int y351, .int y350, .ref 115, .int p349.1]) rfl ?_
  refine Ok_ld (l := xs) rfl rfl (fun y352 hy352 => ?_)
  refine Ok_call (y := 248) (as := [.ref 115, .int y350, .int y351, .int y352]) (rest := [.int p349.1]) (w := fun p353 => some (.int p353.1)) (h1 := fun p353 => HP p349.2 p353.2) rfl rfl (fun x hx => tm_R_gives N (d + 13) xs p349.2 r y350 y351 y352 x hx) (fun p353 hp353 => ?_)
  refine Ok_blk 1 (pc2 := (if p349.1 = p353.1 then 1787 else 1705)) (lo2 := [some (.ref (mBase + 5)), some (.ref 0), some (.ref 115), some (.int x3)]) (st2 := []) rfl ?_
  refine Ok_if (fun h354 => ?_) (fun h354 => ?_)
  · refine Ok_drop (lo0 := [some (.ref (mBase + 5)), some (.ref 0), some (.ref 115), some (.int x3)]) ⟨Or.inr rfl, Or.inr rfl, Or.inr rfl, Or.inr rfl, trivial⟩ ?_
    exact t_Law_p1787 N d xs kb18 hb18 p349.2 p353.2 x3
  · refine Ok_blk 1 (pc2 := 1706) (lo2 := [some (.ref (mBase + 5)), some (.ref 0), some (.ref 115), some (.int x3)]) (st2 := [.int 0]) rfl ?_
    exact Ok_rez (Or.inl rfl) rfl rfl
set_option maxHeartbeats 8000000 in
set_option maxRecDepth 100000 in
theorem t_Law_p1707 (N d : Nat) (xs : List Int32) (kb18 : St → St → Int32 → Option (Int32 × St × St)) (hb18 : ∀ (c : St) (r : St) (x3 : Int32), Ok (mBig (mRoL xs) (d + 15)) (mRoL xs) 2 mK264 (fun p : Int32 × St × St => (some (.int p.1), HP p.2.1 p.2.2)) (kb18 c r x3) 18 [some (.ref (mBase + 5)), some (.ref 0), some (.ref 115), some (.int x3)] [] (HP c r)) (c : St) (r : St) (x3 : Int32) : Ok (mBig (mRoL xs) (d + 15)) (mRoL xs) 2 mK264 (fun p : Int32 × St × St => (some (.int p.1), HP p.2.1 p.2.2)) (Law_p1707 N xs kb18 c r x3) 1707 [some (.ref (mBase + 5)), some (.ref 0), some (.ref 115), some (.int x3)] [] (HP c r) := by
  unfold Law_p1707
  refine Ok_blk 5 (pc2 := 1712) (lo2 := [some (.ref (mBase + 5)), some (.ref 0), some (.ref 115), some (.int x3)]) (st2 := [.int (x3 + 1), .ref (mBase + 5), .ref 0]) rfl ?_
  refine Ok_ld (l := xs) rfl rfl (fun y356 hy356 => ?_)
  refine Ok_blk 4 (pc2 := 1717) (lo2 := [some (.ref (mBase + 5)), some (.ref 0), some (.ref 115), some (.int x3)]) (st2 := [.int (x3 + 2), .ref (mBase + 5), .int y356, .ref 0]) rfl ?_
  refine Ok_ld (l := xs) rfl rfl (fun y357 hy357 => ?_)
  refine Ok_blk 4 (pc2 := 1722) (lo2 := [some (.ref (mBase + 5)), some (.ref 0), some (.ref 115), some (.int x3)]) (st2 := [.int (x3 + 3), .ref (mBase + 5), .int y357, .int y356, .ref 0]) rfl ?_
  refine Ok_ld (l := xs) rfl rfl (fun y358 hy358 => ?_)
  refine Ok_call (y := 157) (as := [.ref 0, .int y356, .int y357, .int y358]) (rest := []) (w := fun p359 => some (.int p359)) (h1 := fun p359 => HP c r) rfl rfl (fun x hx => tm_C_plan N (d + 10) xs c r y356 y357 y358 x hx) (fun p359 hp359 => ?_)
  refine Ok_blk 5 (pc2 := 1731) (lo2 := [some (.ref (mBase + 5)), some (.ref 0), some (.ref 115), some (.int x3)]) (st2 := [.int (x3 + 1), .ref (mBase + 5), .ref 115, .int p359]) rfl ?_
  refine Ok_ld (l := xs) rfl rfl (fun y360 hy360 => ?_)
  refine Ok_blk 4 (pc2 := 1736) (lo2 := [some (.ref (mBase + 5)), some (.ref 0), some (.ref 115), some (.int x3)]) (st2 := [.int (x3 + 2), .ref (mBase + 5), .int y360, .ref 115, .int p359]) rfl ?_
  refine Ok_ld (l := xs) rfl rfl (fun y361 hy361 => ?_)
  refine Ok_blk 4 (pc2 := 1741) (lo2 := [some (.ref (mBase + 5)), some (.ref 0), some (.ref 115), some (.int x3)]) (st2 := [.int (x3 + 3), .ref (mBase + 5), .int y361, .int y360, .ref 115, .int p359]) rfl ?_
  refine Ok_ld (l := xs) rfl rfl (fun y362 hy362 => ?_)
  refine Ok_call (y := 251) (as := [.ref 115, .int y360, .int y361, .int y362]) (rest := [.int p359]) (w := fun p363 => some (.int p363)) (h1 := fun p363 => HP c r) rfl rfl (fun x hx => tm_R_plan N (d + 13) xs c r y360 y361 y362 x hx) (fun p363 hp363 => ?_)
  refine Ok_blk 1 (pc2 := (if p359 = p363 then 1787 else 1748)) (lo2 := [some (.ref (mBase + 5)), some (.ref 0), some (.ref 115), some (.int x3)]) (st2 := []) rfl ?_
  refine Ok_if (fun h364 => ?_) (fun h364 => ?_)
  · refine Ok_drop (lo0 := [some (.ref (mBase + 5)), some (.ref 0), some (.ref 115), some (.int x3)]) ⟨Or.inr rfl, Or.inr rfl, Or.inr rfl, Or.inr rfl, trivial⟩ ?_
    exact t_Law_p1787 N d xs kb18 hb18 c r x3
  · refine Ok_blk 1 (pc2 := 1749) (lo2 := [some (.ref (mBase + 5)), some (.ref 0), some (.ref 115), some (.int x3)]) (st2 := [.int 0]) rfl ?_
    exact Ok_rez (Or.inl rfl) rfl rfl
set_option maxHeartbeats 8000000 in
set_option maxRecDepth 100000 in
theorem t_Law_p1750 (N d : Nat) (xs : List Int32) (kb18 : St → St → Int32 → Option (Int32 × St × St)) (hb18 : ∀ (c : St) (r : St) (x3 : Int32), Ok (mBig (mRoL xs) (d + 15)) (mRoL xs) 2 mK264 (fun p : Int32 × St × St => (some (.int p.1), HP p.2.1 p.2.2)) (kb18 c r x3) 18 [some (.ref (mBase + 5)), some (.ref 0), some (.ref 115), some (.int x3)] [] (HP c r)) (c : St) (r : St) (x3 : Int32) : Ok (mBig (mRoL xs) (d + 15)) (mRoL xs) 2 mK264 (fun p : Int32 × St × St => (some (.int p.1), HP p.2.1 p.2.2)) (Law_p1750 N xs kb18 c r x3) 1750 [some (.ref (mBase + 5)), some (.ref 0), some (.ref 115), some (.int x3)] [] (HP c r) := by
  unfold Law_p1750
  refine Ok_blk 5 (pc2 := 1755) (lo2 := [some (.ref (mBase + 5)), some (.ref 0), some (.ref 115), some (.int x3)]) (st2 := [.int (x3 + 1), .ref (mBase + 5), .ref 0]) rfl ?_
  refine Ok_ld (l := xs) rfl rfl (fun y366 hy366 => ?_)
  refine Ok_call (y := 158) (as := [.ref 0, .int y366]) (rest := []) (w := fun p367 => some (.int p367)) (h1 := fun p367 => HP c r) rfl rfl (fun x hx => tm_C_count N (d + 13) xs c r y366 x hx) (fun p367 hp367 => ?_)
  refine Ok_blk 5 (pc2 := 1764) (lo2 := [some (.ref (mBase + 5)), some (.ref 0), some (.ref 115), some (.int x3)]) (st2 := [.int (x3 + 1), .ref (mBase + 5), .ref 115, .int p367]) rfl ?_
  refine Ok_ld (l := xs) rfl rfl (fun y368 hy368 => ?_)
  refine Ok_call (y := 253) (as := [.ref 115, .int y368]) (rest := [.int p367]) (w := fun p369 => some (.int p369)) (h1 := fun p369 => HP c r) rfl rfl (fun x hx => tm_R_count N (d + 13) xs c r y368 x hx) (fun p369 hp369 => ?_)
  refine Ok_blk 1 (pc2 := (if p367 = p369 then 1787 else 1771)) (lo2 := [some (.ref (mBase + 5)), some (.ref 0), some (.ref 115), some (.int x3)]) (st2 := []) rfl ?_
  refine Ok_if (fun h370 => ?_) (fun h370 => ?_)
  · refine Ok_drop (lo0 := [some (.ref (mBase + 5)), some (.ref 0), some (.ref 115), some (.int x3)]) ⟨Or.inr rfl, Or.inr rfl, Or.inr rfl, Or.inr rfl, trivial⟩ ?_
    exact t_Law_p1787 N d xs kb18 hb18 c r x3
  · refine Ok_blk 1 (pc2 := 1772) (lo2 := [some (.ref (mBase + 5)), some (.ref 0), some (.ref 115), some (.int x3)]) (st2 := [.int 0]) rfl ?_
    exact Ok_rez (Or.inl rfl) rfl rfl
set_option maxHeartbeats 8000000 in
set_option maxRecDepth 100000 in
theorem t_Law_p1773 (N d : Nat) (xs : List Int32) (kb18 : St → St → Int32 → Option (Int32 × St × St)) (hb18 : ∀ (c : St) (r : St) (x3 : Int32), Ok (mBig (mRoL xs) (d + 15)) (mRoL xs) 2 mK264 (fun p : Int32 × St × St => (some (.int p.1), HP p.2.1 p.2.2)) (kb18 c r x3) 18 [some (.ref (mBase + 5)), some (.ref 0), some (.ref 115), some (.int x3)] [] (HP c r)) (c : St) (r : St) (x3 : Int32) : Ok (mBig (mRoL xs) (d + 15)) (mRoL xs) 2 mK264 (fun p : Int32 × St × St => (some (.int p.1), HP p.2.1 p.2.2)) (Law_p1773 N xs kb18 c r x3) 1773 [some (.ref (mBase + 5)), some (.ref 0), some (.ref 115), some (.int x3)] [] (HP c r) := by
  unfold Law_p1773
  refine Ok_blk 1 (pc2 := 1774) (lo2 := [some (.ref (mBase + 5)), some (.ref 0), some (.ref 115), some (.int x3)]) (st2 := [.ref 0]) rfl ?_
  refine Ok_call (y := 160) (as := [.ref 0]) (rest := []) (w := fun p372 => some (.long p372.1)) (h1 := fun p372 => HP p372.2 r) rfl rfl (fun x hx => tm_C_digest N (d + 8) xs c r x hx) (fun p372 hp372 => ?_)
  refine Ok_blk 1 (pc2 := 1778) (lo2 := [some (.ref (mBase + 5)), some (.ref 0), some (.ref 115), some (.int x3)]) (st2 := [.ref 115, .long p372.1]) rfl ?_
  refine Ok_call (y := 257) (as := [.ref 115]) (rest := [.long p372.1]) (w := fun p373 => some (.long p373.1)) (h1 := fun p373 => HP p372.2 p373.2) rfl rfl (fun x hx => tm_R_digest N (d + 10) xs p372.2 r x hx) (fun p373 hp373 => ?_)
  refine Ok_blk 2 (pc2 := (if (mLc p372.1 p373.1) = 0 then 1787 else 1785)) (lo2 := [some (.ref (mBase + 5)), some (.ref 0), some (.ref 115), some (.int x3)]) (st2 := []) rfl ?_
  refine Ok_if (fun h374 => ?_) (fun h374 => ?_)
  · refine Ok_drop (lo0 := [some (.ref (mBase + 5)), some (.ref 0), some (.ref 115), some (.int x3)]) ⟨Or.inr rfl, Or.inr rfl, Or.inr rfl, Or.inr rfl, trivial⟩ ?_
    exact t_Law_p1787 N d xs kb18 hb18 p372.2 p373.2 x3
  · refine Ok_blk 1 (pc2 := 1786) (lo2 := [some (.ref (mBase + 5)), some (.ref 0), some (.ref 115), some (.int x3)]) (st2 := [.int 0]) rfl ?_
    exact Ok_rez (Or.inl rfl) rfl rfl
set_option maxHeartbeats 8000000 in
set_option maxRecDepth 100000 in
theorem t_Law_p18b (N d : Nat) (xs : List Int32) (kb18 : St → St → Int32 → Option (Int32 × St × St)) (hb18 : ∀ (c : St) (r : St) (x3 : Int32), Ok (mBig (mRoL xs) (d + 15)) (mRoL xs) 2 mK264 (fun p : Int32 × St × St => (some (.int p.1), HP p.2.1 p.2.2)) (kb18 c r x3) 18 [some (.ref (mBase + 5)), some (.ref 0), some (.ref 115), some (.int x3)] [] (HP c r)) (c : St) (r : St) (x3 : Int32) : Ok (mBig (mRoL xs) (d + 15)) (mRoL xs) 2 mK264 (fun p : Int32 × St × St => (some (.int p.1), HP p.2.1 p.2.2)) (Law_p18b N xs kb18 c r x3) 18 [some (.ref (mBase + 5)), some (.ref 0), some (.ref 115), some (.int x3)] [] (HP c r) := by
  unfold Law_p18b
  refine Ok_blk 6 (pc2 := (if ((Int32.ofNat xs.length) - 4) < x3 then 1793 else 26)) (lo2 := [some (.ref (mBase + 5)), some (.ref 0), some (.ref 115), some (.int x3)]) (st2 := []) rfl ?_
  refine Ok_if (fun h1 => ?_) (fun h1 => ?_)
  · refine Ok_blk 1 (pc2 := 1794) (lo2 := [some (.ref (mBase + 5)), some (.ref 0), some (.ref 115), some (.int x3)]) (st2 := [.int 1]) rfl ?_
    exact Ok_rez (Or.inr rfl) rfl rfl
  · refine Ok_blk 2 (pc2 := 28) (lo2 := [some (.ref (mBase + 5)), some (.ref 0), some (.ref 115), some (.int x3)]) (st2 := [.int x3, .ref (mBase + 5)]) rfl ?_
    refine Ok_ld (l := xs) rfl rfl (fun y2 hy2 => ?_)
    refine Ok_blk 3 (pc2 := mSw (y2 &&& 63) [(0, 248), (1, 281), (2, 314), (3, 337), (4, 370), (5, 419), (6, 452), (7, 475), (8, 498), (9, 521), (10, 554), (11, 587), (12, 620), (13, 653), (14, 686), (15, 739), (16, 752), (17, 765), (18, 778), (19, 811), (20, 855), (21, 888), (22, 911), (23, 944), (24, 967), (25, 1000), (26, 1043), (27, 1066), (28, 1109), (29, 1142), (30, 1175), (31, 1218), (32, 1241), (33, 1264), (34, 1297), (35, 1330), (36, 1363), (37, 1386), (38, 1419), (39, 1462), (40, 1495), (41, 1518), (42, 1551), (43, 1584), (44, 1618), (45, 1641), (46, 1664), (47, 1707), (48, 1750), (49, 1773)] 1787) (lo2 := [some (.ref (mBase + 5)), some (.ref 0), some (.ref 115), some (.int x3)]) (st2 := []) rfl ?_
    refine Ok_sw (fun h3 => ?_) (fun h3 => ?_)
    · refine Ok_drop (lo0 := [some (.ref (mBase + 5)), some (.ref 0), some (.ref 115), some (.int x3)]) ⟨Or.inr rfl, Or.inr rfl, Or.inr rfl, Or.inr rfl, trivial⟩ ?_
      exact t_Law_p248 N d xs kb18 hb18 c r x3
    refine Ok_sw (fun h11 => ?_) (fun h11 => ?_)
    · refine Ok_drop (lo0 := [some (.ref (mBase + 5)), some (.ref 0), some (.ref 115), some (.int x3)]) ⟨Or.inr rfl, Or.inr rfl, Or.inr rfl, Or.inr rfl, trivial⟩ ?_
      exact t_Law_p281 N d xs kb18 hb18 c r x3
    refine Ok_sw (fun h19 => ?_) (fun h19 => ?_)
    · refine Ok_drop (lo0 := [some (.ref (mBase + 5)), some (.ref 0), some (.ref 115), some (.int x3)]) ⟨Or.inr rfl, Or.inr rfl, Or.inr rfl, Or.inr rfl, trivial⟩ ?_
      exact t_Law_p314 N d xs kb18 hb18 c r x3
    refine Ok_sw (fun h25 => ?_) (fun h25 => ?_)
    · refine Ok_drop (lo0 := [some (.ref (mBase + 5)), some (.ref 0), some (.ref 115), some (.int x3)]) ⟨Or.inr rfl, Or.inr rfl, Or.inr rfl, Or.inr rfl, trivial⟩ ?_
      exact t_Law_p337 N d xs kb18 hb18 c r x3
    refine Ok_sw (fun h33 => ?_) (fun h33 => ?_)
    · refine Ok_drop (lo0 := [some (.ref (mBase + 5)), some (.ref 0), some (.ref 115), some (.int x3)]) ⟨Or.inr rfl, Or.inr rfl, Or.inr rfl, Or.inr rfl, trivial⟩ ?_
      exact t_Law_p370 N d xs kb18 hb18 c r x3
    refine Ok_sw (fun h43 => ?_) (fun h43 => ?_)
    · refine Ok_drop (lo0 := [some (.ref (mBase + 5)), some (.ref 0), some (.ref 115), some (.int x3)]) ⟨Or.inr rfl, Or.inr rfl, Or.inr rfl, Or.inr rfl, trivial⟩ ?_
      exact t_Law_p419 N d xs kb18 hb18 c r x3
    refine Ok_sw (fun h51 => ?_) (fun h51 => ?_)
    · refine Ok_drop (lo0 := [some (.ref (mBase + 5)), some (.ref 0), some (.ref 115), some (.int x3)]) ⟨Or.inr rfl, Or.inr rfl, Or.inr rfl, Or.inr rfl, trivial⟩ ?_
      exact t_Law_p452 N d xs kb18 hb18 c r x3
    refine Ok_sw (fun h57 => ?_) (fun h57 => ?_)
    · refine Ok_drop (lo0 := [some (.ref (mBase + 5)), some (.ref 0), some (.ref 115), some (.int x3)]) ⟨Or.inr rfl, Or.inr rfl, Or.inr rfl, Or.inr rfl, trivial⟩ ?_
      exact t_Law_p475 N d xs kb18 hb18 c r x3
    refine Ok_sw (fun h63 => ?_) (fun h63 => ?_)
    · refine Ok_drop (lo0 := [some (.ref (mBase + 5)), some (.ref 0), some (.ref 115), some (.int x3)]) ⟨Or.inr rfl, Or.inr rfl, Or.inr rfl, Or.inr rfl, trivial⟩ ?_
      exact t_Law_p498 N d xs kb18 hb18 c r x3
    refine Ok_sw (fun h69 => ?_) (fun h69 => ?_)
    · refine Ok_drop (lo0 := [some (.ref (mBase + 5)), some (.ref 0), some (.ref 115), some (.int x3)]) ⟨Or.inr rfl, Or.inr rfl, Or.inr rfl, Or.inr rfl, trivial⟩ ?_
      exact t_Law_p521 N d xs kb18 hb18 c r x3
    refine Ok_sw (fun h77 => ?_) (fun h77 => ?_)
    · refine Ok_drop (lo0 := [some (.ref (mBase + 5)), some (.ref 0), some (.ref 115), some (.int x3)]) ⟨Or.inr rfl, Or.inr rfl, Or.inr rfl, Or.inr rfl, trivial⟩ ?_
      exact t_Law_p554 N d xs kb18 hb18 c r x3
    refine Ok_sw (fun h85 => ?_) (fun h85 => ?_)
    · refine Ok_drop (lo0 := [some (.ref (mBase + 5)), some (.ref 0), some (.ref 115), some (.int x3)]) ⟨Or.inr rfl, Or.inr rfl, Or.inr rfl, Or.inr rfl, trivial⟩ ?_
      exact t_Law_p587 N d xs kb18 hb18 c r x3
    refine Ok_sw (fun h93 => ?_) (fun h93 => ?_)
    · refine Ok_drop (lo0 := [some (.ref (mBase + 5)), some (.ref 0), some (.ref 115), some (.int x3)]) ⟨Or.inr rfl, Or.inr rfl, Or.inr rfl, Or.inr rfl, trivial⟩ ?_
      exact t_Law_p620 N d xs kb18 hb18 c r x3
    refine Ok_sw (fun h101 => ?_) (fun h101 => ?_)
    · refine Ok_drop (lo0 := [some (.ref (mBase + 5)), some (.ref 0), some (.ref 115), some (.int x3)]) ⟨Or.inr rfl, Or.inr rfl, Or.inr rfl, Or.inr rfl, trivial⟩ ?_
      exact t_Law_p653 N d xs kb18 hb18 c r x3
    refine Ok_sw (fun h109 => ?_) (fun h109 => ?_)
    · refine Ok_drop (lo0 := [some (.ref (mBase + 5)), some (.ref 0), some (.ref 115), some (.int x3)]) ⟨Or.inr rfl, Or.inr rfl, Or.inr rfl, Or.inr rfl, trivial⟩ ?_
      exact t_Law_p686 N d xs kb18 hb18 c r x3
    refine Ok_sw (fun h117 => ?_) (fun h117 => ?_)
    · refine Ok_drop (lo0 := [some (.ref (mBase + 5)), some (.ref 0), some (.ref 115), some (.int x3)]) ⟨Or.inr rfl, Or.inr rfl, Or.inr rfl, Or.inr rfl, trivial⟩ ?_
      exact t_Law_p739 N d xs kb18 hb18 c r x3
    refine Ok_sw (fun h121 => ?_) (fun h121 => ?_)
    · refine Ok_drop (lo0 := [some (.ref (mBase + 5)), some (.ref 0), some (.ref 115), some (.int x3)]) ⟨Or.inr rfl, Or.inr rfl, Or.inr rfl, Or.inr rfl, trivial⟩ ?_
      exact t_Law_p752 N d xs kb18 hb18 c r x3
    refine Ok_sw (fun h125 => ?_) (fun h125 => ?_)
    · refine Ok_drop (lo0 := [some (.ref (mBase + 5)), some (.ref 0), some (.ref 115), some (.int x3)]) ⟨Or.inr rfl, Or.inr rfl, Or.inr rfl, Or.inr rfl, trivial⟩ ?_
      exact t_Law_p765 N d xs kb18 hb18 c r x3
    refine Ok_sw (fun h129 => ?_) (fun h129 => ?_)
    · refine Ok_drop (lo0 := [some (.ref (mBase + 5)), some (.ref 0), some (.ref 115), some (.int x3)]) ⟨Or.inr rfl, Or.inr rfl, Or.inr rfl, Or.inr rfl, trivial⟩ ?_
      exact t_Law_p778 N d xs kb18 hb18 c r x3
    refine Ok_sw (fun h137 => ?_) (fun h137 => ?_)
    · refine Ok_drop (lo0 := [some (.ref (mBase + 5)), some (.ref 0), some (.ref 115), some (.int x3)]) ⟨Or.inr rfl, Or.inr rfl, Or.inr rfl, Or.inr rfl, trivial⟩ ?_
      exact t_Law_p811 N d xs kb18 hb18 c r x3
    refine Ok_sw (fun h147 => ?_) (fun h147 => ?_)
    · refine Ok_drop (lo0 := [some (.ref (mBase + 5)), some (.ref 0), some (.ref 115), some (.int x3)]) ⟨Or.inr rfl, Or.inr rfl, Or.inr rfl, Or.inr rfl, trivial⟩ ?_
      exact t_Law_p855 N d xs kb18 hb18 c r x3
    refine Ok_sw (fun h155 => ?_) (fun h155 => ?_)
    · refine Ok_drop (lo0 := [some (.ref (mBase + 5)), some (.ref 0), some (.ref 115), some (.int x3)]) ⟨Or.inr rfl, Or.inr rfl, Or.inr rfl, Or.inr rfl, trivial⟩ ?_
      exact t_Law_p888 N d xs kb18 hb18 c r x3
    refine Ok_sw (fun h161 => ?_) (fun h161 => ?_)
    · refine Ok_drop (lo0 := [some (.ref (mBase + 5)), some (.ref 0), some (.ref 115), some (.int x3)]) ⟨Or.inr rfl, Or.inr rfl, Or.inr rfl, Or.inr rfl, trivial⟩ ?_
      exact t_Law_p911 N d xs kb18 hb18 c r x3
    refine Ok_sw (fun h169 => ?_) (fun h169 => ?_)
    · refine Ok_drop (lo0 := [some (.ref (mBase + 5)), some (.ref 0), some (.ref 115), some (.int x3)]) ⟨Or.inr rfl, Or.inr rfl, Or.inr rfl, Or.inr rfl, trivial⟩ ?_
      exact t_Law_p944 N d xs kb18 hb18 c r x3
    refine Ok_sw (fun h175 => ?_) (fun h175 => ?_)
    · refine Ok_drop (lo0 := [some (.ref (mBase + 5)), some (.ref 0), some (.ref 115), some (.int x3)]) ⟨Or.inr rfl, Or.inr rfl, Or.inr rfl, Or.inr rfl, trivial⟩ ?_
      exact t_Law_p967 N d xs kb18 hb18 c r x3
    refine Ok_sw (fun h183 => ?_) (fun h183 => ?_)
    · refine Ok_drop (lo0 := [some (.ref (mBase + 5)), some (.ref 0), some (.ref 115), some (.int x3)]) ⟨Or.inr rfl, Or.inr rfl, Or.inr rfl, Or.inr rfl, trivial⟩ ?_
      exact t_Law_p1000 N d xs kb18 hb18 c r x3
    refine Ok_sw (fun h193 => ?_) (fun h193 => ?_)
    · refine Ok_drop (lo0 := [some (.ref (mBase + 5)), some (.ref 0), some (.ref 115), some (.int x3)]) ⟨Or.inr rfl, Or.inr rfl, Or.inr rfl, Or.inr rfl, trivial⟩ ?_
      exact t_Law_p1043 N d xs kb18 hb18 c r x3
    refine Ok_sw (fun h199 => ?_) (fun h199 => ?_)
    · refine Ok_drop (lo0 := [some (.ref (mBase + 5)), some (.ref 0), some (.ref 115), some (.int x3)]) ⟨Or.inr rfl, Or.inr rfl, Or.inr rfl, Or.inr rfl, trivial⟩ ?_
      exact t_Law_p1066 N d xs kb18 hb18 c r x3
    refine Ok_sw (fun h209 => ?_) (fun h209 => ?_)
    · refine Ok_drop (lo0 := [some (.ref (mBase + 5)), some (.ref 0), some (.ref 115), some (.int x3)]) ⟨Or.inr rfl, Or.inr rfl, Or.inr rfl, Or.inr rfl, trivial⟩ ?_
      exact t_Law_p1109 N d xs kb18 hb18 c r x3
    refine Ok_sw (fun h217 => ?_) (fun h217 => ?_)
    · refine Ok_drop (lo0 := [some (.ref (mBase + 5)), some (.ref 0), some (.ref 115), some (.int x3)]) ⟨Or.inr rfl, Or.inr rfl, Or.inr rfl, Or.inr rfl, trivial⟩ ?_
      exact t_Law_p1142 N d xs kb18 hb18 c r x3
    refine Ok_sw (fun h225 => ?_) (fun h225 => ?_)
    · refine Ok_drop (lo0 := [some (.ref (mBase + 5)), some (.ref 0), some (.ref 115), some (.int x3)]) ⟨Or.inr rfl, Or.inr rfl, Or.inr rfl, Or.inr rfl, trivial⟩ ?_
      exact t_Law_p1175 N d xs kb18 hb18 c r x3
    refine Ok_sw (fun h235 => ?_) (fun h235 => ?_)
    · refine Ok_drop (lo0 := [some (.ref (mBase + 5)), some (.ref 0), some (.ref 115), some (.int x3)]) ⟨Or.inr rfl, Or.inr rfl, Or.inr rfl, Or.inr rfl, trivial⟩ ?_
      exact t_Law_p1218 N d xs kb18 hb18 c r x3
    refine Ok_sw (fun h241 => ?_) (fun h241 => ?_)
    · refine Ok_drop (lo0 := [some (.ref (mBase + 5)), some (.ref 0), some (.ref 115), some (.int x3)]) ⟨Or.inr rfl, Or.inr rfl, Or.inr rfl, Or.inr rfl, trivial⟩ ?_
      exact t_Law_p1241 N d xs kb18 hb18 c r x3
    refine Ok_sw (fun h247 => ?_) (fun h247 => ?_)
    · refine Ok_drop (lo0 := [some (.ref (mBase + 5)), some (.ref 0), some (.ref 115), some (.int x3)]) ⟨Or.inr rfl, Or.inr rfl, Or.inr rfl, Or.inr rfl, trivial⟩ ?_
      exact t_Law_p1264 N d xs kb18 hb18 c r x3
    refine Ok_sw (fun h255 => ?_) (fun h255 => ?_)
    · refine Ok_drop (lo0 := [some (.ref (mBase + 5)), some (.ref 0), some (.ref 115), some (.int x3)]) ⟨Or.inr rfl, Or.inr rfl, Or.inr rfl, Or.inr rfl, trivial⟩ ?_
      exact t_Law_p1297 N d xs kb18 hb18 c r x3
    refine Ok_sw (fun h263 => ?_) (fun h263 => ?_)
    · refine Ok_drop (lo0 := [some (.ref (mBase + 5)), some (.ref 0), some (.ref 115), some (.int x3)]) ⟨Or.inr rfl, Or.inr rfl, Or.inr rfl, Or.inr rfl, trivial⟩ ?_
      exact t_Law_p1330 N d xs kb18 hb18 c r x3
    refine Ok_sw (fun h271 => ?_) (fun h271 => ?_)
    · refine Ok_drop (lo0 := [some (.ref (mBase + 5)), some (.ref 0), some (.ref 115), some (.int x3)]) ⟨Or.inr rfl, Or.inr rfl, Or.inr rfl, Or.inr rfl, trivial⟩ ?_
      exact t_Law_p1363 N d xs kb18 hb18 c r x3
    refine Ok_sw (fun h277 => ?_) (fun h277 => ?_)
    · refine Ok_drop (lo0 := [some (.ref (mBase + 5)), some (.ref 0), some (.ref 115), some (.int x3)]) ⟨Or.inr rfl, Or.inr rfl, Or.inr rfl, Or.inr rfl, trivial⟩ ?_
      exact t_Law_p1386 N d xs kb18 hb18 c r x3
    refine Ok_sw (fun h285 => ?_) (fun h285 => ?_)
    · refine Ok_drop (lo0 := [some (.ref (mBase + 5)), some (.ref 0), some (.ref 115), some (.int x3)]) ⟨Or.inr rfl, Or.inr rfl, Or.inr rfl, Or.inr rfl, trivial⟩ ?_
      exact t_Law_p1419 N d xs kb18 hb18 c r x3
    refine Ok_sw (fun h295 => ?_) (fun h295 => ?_)
    · refine Ok_drop (lo0 := [some (.ref (mBase + 5)), some (.ref 0), some (.ref 115), some (.int x3)]) ⟨Or.inr rfl, Or.inr rfl, Or.inr rfl, Or.inr rfl, trivial⟩ ?_
      exact t_Law_p1462 N d xs kb18 hb18 c r x3
    refine Ok_sw (fun h303 => ?_) (fun h303 => ?_)
    · refine Ok_drop (lo0 := [some (.ref (mBase + 5)), some (.ref 0), some (.ref 115), some (.int x3)]) ⟨Or.inr rfl, Or.inr rfl, Or.inr rfl, Or.inr rfl, trivial⟩ ?_
      exact t_Law_p1495 N d xs kb18 hb18 c r x3
    refine Ok_sw (fun h309 => ?_) (fun h309 => ?_)
    · refine Ok_drop (lo0 := [some (.ref (mBase + 5)), some (.ref 0), some (.ref 115), some (.int x3)]) ⟨Or.inr rfl, Or.inr rfl, Or.inr rfl, Or.inr rfl, trivial⟩ ?_
      exact t_Law_p1518 N d xs kb18 hb18 c r x3
    refine Ok_sw (fun h317 => ?_) (fun h317 => ?_)
    · refine Ok_drop (lo0 := [some (.ref (mBase + 5)), some (.ref 0), some (.ref 115), some (.int x3)]) ⟨Or.inr rfl, Or.inr rfl, Or.inr rfl, Or.inr rfl, trivial⟩ ?_
      exact t_Law_p1551 N d xs kb18 hb18 c r x3
    refine Ok_sw (fun h325 => ?_) (fun h325 => ?_)
    · refine Ok_drop (lo0 := [some (.ref (mBase + 5)), some (.ref 0), some (.ref 115), some (.int x3)]) ⟨Or.inr rfl, Or.inr rfl, Or.inr rfl, Or.inr rfl, trivial⟩ ?_
      exact t_Law_p1584 N d xs kb18 hb18 c r x3
    refine Ok_sw (fun h333 => ?_) (fun h333 => ?_)
    · refine Ok_drop (lo0 := [some (.ref (mBase + 5)), some (.ref 0), some (.ref 115), some (.int x3)]) ⟨Or.inr rfl, Or.inr rfl, Or.inr rfl, Or.inr rfl, trivial⟩ ?_
      exact t_Law_p1618 N d xs kb18 hb18 c r x3
    refine Ok_sw (fun h339 => ?_) (fun h339 => ?_)
    · refine Ok_drop (lo0 := [some (.ref (mBase + 5)), some (.ref 0), some (.ref 115), some (.int x3)]) ⟨Or.inr rfl, Or.inr rfl, Or.inr rfl, Or.inr rfl, trivial⟩ ?_
      exact t_Law_p1641 N d xs kb18 hb18 c r x3
    refine Ok_sw (fun h345 => ?_) (fun h345 => ?_)
    · refine Ok_drop (lo0 := [some (.ref (mBase + 5)), some (.ref 0), some (.ref 115), some (.int x3)]) ⟨Or.inr rfl, Or.inr rfl, Or.inr rfl, Or.inr rfl, trivial⟩ ?_
      exact t_Law_p1664 N d xs kb18 hb18 c r x3
    refine Ok_sw (fun h355 => ?_) (fun h355 => ?_)
    · refine Ok_drop (lo0 := [some (.ref (mBase + 5)), some (.ref 0), some (.ref 115), some (.int x3)]) ⟨Or.inr rfl, Or.inr rfl, Or.inr rfl, Or.inr rfl, trivial⟩ ?_
      exact t_Law_p1707 N d xs kb18 hb18 c r x3
    refine Ok_sw (fun h365 => ?_) (fun h365 => ?_)
    · refine Ok_drop (lo0 := [some (.ref (mBase + 5)), some (.ref 0), some (.ref 115), some (.int x3)]) ⟨Or.inr rfl, Or.inr rfl, Or.inr rfl, Or.inr rfl, trivial⟩ ?_
      exact t_Law_p1750 N d xs kb18 hb18 c r x3
    refine Ok_sw (fun h371 => ?_) (fun h371 => ?_)
    · refine Ok_drop (lo0 := [some (.ref (mBase + 5)), some (.ref 0), some (.ref 115), some (.int x3)]) ⟨Or.inr rfl, Or.inr rfl, Or.inr rfl, Or.inr rfl, trivial⟩ ?_
      exact t_Law_p1773 N d xs kb18 hb18 c r x3
    show Ok _ _ _ _ _ _ 1787 _ _ _
    refine Ok_drop (lo0 := [some (.ref (mBase + 5)), some (.ref 0), some (.ref 115), some (.int x3)]) ⟨Or.inr rfl, Or.inr rfl, Or.inr rfl, Or.inr rfl, trivial⟩ ?_
    exact t_Law_p1787 N d xs kb18 hb18 c r x3
set_option maxHeartbeats 8000000 in
set_option maxRecDepth 100000 in
theorem t_Law_p18 (N d : Nat) (xs : List Int32) : ∀ (n : Nat) (c : St) (r : St) (x3 : Int32), Ok (mBig (mRoL xs) (d + 15)) (mRoL xs) 2 mK264 (fun p : Int32 × St × St => (some (.int p.1), HP p.2.1 p.2.2)) (Law_p18 N xs n c r x3) 18 [some (.ref (mBase + 5)), some (.ref 0), some (.ref 115), some (.int x3)] [] (HP c r) := by
  intro n
  induction n with
  | zero => intro c r x3; exact Ok_none
  | succ n ih => intro c r x3; exact t_Law_p18b N d xs (Law_p18 N xs n) ih c r x3
