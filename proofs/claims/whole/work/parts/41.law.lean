theorem ml_L_132 : Cond.methodLink RL 132 yX11_feed ∈ lw_tbl := List.mem_append_right _ (List.mem_of_getElem? (i := 473) (by decide +kernel))
theorem ml_L_136 : Cond.methodLink RL 136 yX12_feed ∈ lw_tbl := List.mem_append_right _ (List.mem_of_getElem? (i := 1509) (by decide +kernel))
theorem ml_L_137 : Cond.methodLink RL 137 yX11_end ∈ lw_tbl := List.mem_append_right _ (List.mem_of_getElem? (i := 481) (by decide +kernel))
theorem ml_L_141 : Cond.methodLink RL 141 yX12_end ∈ lw_tbl := List.mem_append_right _ (List.mem_of_getElem? (i := 1513) (by decide +kernel))
theorem ml_L_142 : Cond.methodLink RL 142 yL_court ∈ lw_tbl := List.mem_append_right _ (List.mem_of_getElem? (i := 634) (by decide +kernel))
theorem ml_L_147 : Cond.methodLink RL 147 yX12_court ∈ lw_tbl := List.mem_append_right _ (List.mem_of_getElem? (i := 1521) (by decide +kernel))
theorem ml_L_148 : Cond.methodLink RL 148 yX12_thrown ∈ lw_tbl := List.mem_append_right _ (List.mem_of_getElem? (i := 1396) (by decide +kernel))
theorem ml_L_151 : Cond.methodLink RL 151 yL_law ∈ lw_tbl := List.mem_append_right _ (List.mem_of_getElem? (i := 880) (by decide +kernel))
theorem ml_L_153 : Cond.methodLink RL 153 yX12_law ∈ lw_tbl := List.mem_append_right _ (List.mem_of_getElem? (i := 1694) (by decide +kernel))
theorem ml_L_154 : Cond.methodLink RL 154 yX11_fault ∈ lw_tbl := List.mem_append_right _ (List.mem_of_getElem? (i := 485) (by decide +kernel))
theorem ml_L_157 : Cond.methodLink RL 157 yX12_fault ∈ lw_tbl := List.mem_append_right _ (List.mem_of_getElem? (i := 1517) (by decide +kernel))
theorem ml_L_158 : Cond.methodLink RL 158 yL_bird ∈ lw_tbl := List.mem_append_right _ (List.mem_of_getElem? (i := 967) (by decide +kernel))
theorem ml_L_161 : Cond.methodLink RL 161 yX12_bird ∈ lw_tbl := List.mem_append_right _ (List.mem_of_getElem? (i := 1852) (by decide +kernel))
theorem ml_L_162 : Cond.methodLink RL 162 yL_stock ∈ lw_tbl := List.mem_append_right _ (List.mem_of_getElem? (i := 1012) (by decide +kernel))
theorem ml_L_164 : Cond.methodLink RL 164 yX12_stock ∈ lw_tbl := List.mem_append_right _ (List.mem_of_getElem? (i := 1856) (by decide +kernel))
theorem ml_L_165 : Cond.methodLink RL 165 yL_matter ∈ lw_tbl := List.mem_append_right _ (List.mem_of_getElem? (i := 1024) (by decide +kernel))
theorem ml_L_167 : Cond.methodLink RL 167 yX12_matter ∈ lw_tbl := List.mem_append_right _ (List.mem_of_getElem? (i := 1868) (by decide +kernel))
theorem ml_L_168 : Cond.methodLink RL 168 yL_wind ∈ lw_tbl := List.mem_append_right _ (List.mem_of_getElem? (i := 1041) (by decide +kernel))
theorem ml_L_171 : Cond.methodLink RL 171 yX12_wind ∈ lw_tbl := List.mem_append_right _ (List.mem_of_getElem? (i := 1884) (by decide +kernel))
theorem ml_L_172 : Cond.methodLink RL 172 yL_moves ∈ lw_tbl := List.mem_append_right _ (List.mem_of_getElem? (i := 1053) (by decide +kernel))
theorem ml_L_175 : Cond.methodLink RL 175 yX12_moves ∈ lw_tbl := List.mem_append_right _ (List.mem_of_getElem? (i := 1698) (by decide +kernel))
theorem ml_L_176 : Cond.methodLink RL 176 yL_call ∈ lw_tbl := List.mem_append_right _ (List.mem_of_getElem? (i := 1071) (by decide +kernel))
theorem ml_L_179 : Cond.methodLink RL 179 yX12_call ∈ lw_tbl := List.mem_append_right _ (List.mem_of_getElem? (i := 1917) (by decide +kernel))
theorem ml_L_180 : Cond.methodLink RL 180 yL_hour ∈ lw_tbl := List.mem_append_right _ (List.mem_of_getElem? (i := 1142) (by decide +kernel))
theorem ml_L_182 : Cond.methodLink RL 182 yX12_hour ∈ lw_tbl := List.mem_append_right _ (List.mem_of_getElem? (i := 1946) (by decide +kernel))
theorem ml_L_183 : Cond.methodLink RL 183 yL_blow ∈ lw_tbl := List.mem_append_right _ (List.mem_of_getElem? (i := 1149) (by decide +kernel))
theorem ml_L_185 : Cond.methodLink RL 185 yX12_blow ∈ lw_tbl := List.mem_append_right _ (List.mem_of_getElem? (i := 1950) (by decide +kernel))
theorem ml_L_186 : Cond.methodLink RL 186 yL_give ∈ lw_tbl := List.mem_append_right _ (List.mem_of_getElem? (i := 1156) (by decide +kernel))
theorem ml_L_189 : Cond.methodLink RL 189 yX12_give ∈ lw_tbl := List.mem_append_right _ (List.mem_of_getElem? (i := 1954) (by decide +kernel))
theorem ml_L_190 : Cond.methodLink RL 190 yL_appeal ∈ lw_tbl := List.mem_append_right _ (List.mem_of_getElem? (i := 1164) (by decide +kernel))
theorem ml_L_192 : Cond.methodLink RL 192 yX12_appeal ∈ lw_tbl := List.mem_append_right _ (List.mem_of_getElem? (i := 1958) (by decide +kernel))
theorem ml_L_193 : Cond.methodLink RL 193 yL_weeks ∈ lw_tbl := List.mem_append_right _ (List.mem_of_getElem? (i := 1172) (by decide +kernel))
theorem ml_L_195 : Cond.methodLink RL 195 yX12_weeks ∈ lw_tbl := List.mem_append_right _ (List.mem_of_getElem? (i := 1962) (by decide +kernel))
theorem ml_L_196 : Cond.methodLink RL 196 yL_ways ∈ lw_tbl := List.mem_append_right _ (List.mem_of_getElem? (i := 1179) (by decide +kernel))
theorem ml_L_198 : Cond.methodLink RL 198 yX12_ways ∈ lw_tbl := List.mem_append_right _ (List.mem_of_getElem? (i := 1746) (by decide +kernel))
theorem ml_L_199 : Cond.methodLink RL 199 yL_lands ∈ lw_tbl := List.mem_append_right _ (List.mem_of_getElem? (i := 1190) (by decide +kernel))
theorem ml_L_201 : Cond.methodLink RL 201 yX12_lands ∈ lw_tbl := List.mem_append_right _ (List.mem_of_getElem? (i := 1780) (by decide +kernel))
theorem ml_L_202 : Cond.methodLink RL 202 yL_good ∈ lw_tbl := List.mem_append_right _ (List.mem_of_getElem? (i := 1201) (by decide +kernel))
theorem ml_L_204 : Cond.methodLink RL 204 yX12_good ∈ lw_tbl := List.mem_append_right _ (List.mem_of_getElem? (i := 1784) (by decide +kernel))
theorem ml_L_205 : Cond.methodLink RL 205 yL_straight ∈ lw_tbl := List.mem_append_right _ (List.mem_of_getElem? (i := 1208) (by decide +kernel))
theorem ml_L_208 : Cond.methodLink RL 208 yX12_straight ∈ lw_tbl := List.mem_append_right _ (List.mem_of_getElem? (i := 1796) (by decide +kernel))
theorem ml_L_209 : Cond.methodLink RL 209 yL_odds ∈ lw_tbl := List.mem_append_right _ (List.mem_of_getElem? (i := 1217) (by decide +kernel))
theorem ml_L_211 : Cond.methodLink RL 211 yX12_odds ∈ lw_tbl := List.mem_append_right _ (List.mem_of_getElem? (i := 1812) (by decide +kernel))
theorem ml_L_212 : Cond.methodLink RL 212 yL_best ∈ lw_tbl := List.mem_append_right _ (List.mem_of_getElem? (i := 1241) (by decide +kernel))
theorem ml_L_214 : Cond.methodLink RL 214 yX12_best ∈ lw_tbl := List.mem_append_right _ (List.mem_of_getElem? (i := 1840) (by decide +kernel))
theorem ml_L_215 : Cond.methodLink RL 215 yL_when ∈ lw_tbl := List.mem_append_right _ (List.mem_of_getElem? (i := 1248) (by decide +kernel))
theorem ml_L_217 : Cond.methodLink RL 217 yX12_when ∈ lw_tbl := List.mem_append_right _ (List.mem_of_getElem? (i := 1844) (by decide +kernel))
theorem ml_L_218 : Cond.methodLink RL 218 yL_surest ∈ lw_tbl := List.mem_append_right _ (List.mem_of_getElem? (i := 1255) (by decide +kernel))
theorem ml_L_221 : Cond.methodLink RL 221 yX12_surest ∈ lw_tbl := List.mem_append_right _ (List.mem_of_getElem? (i := 1888) (by decide +kernel))
theorem ml_L_222 : Cond.methodLink RL 222 yL_rests ∈ lw_tbl := List.mem_append_right _ (List.mem_of_getElem? (i := 1274) (by decide +kernel))
theorem ml_L_224 : Cond.methodLink RL 224 yX12_rests ∈ lw_tbl := List.mem_append_right _ (List.mem_of_getElem? (i := 1903) (by decide +kernel))
theorem ml_L_225 : Cond.methodLink RL 225 yL_fair ∈ lw_tbl := List.mem_append_right _ (List.mem_of_getElem? (i := 1285) (by decide +kernel))
theorem ml_L_227 : Cond.methodLink RL 227 yX12_fair ∈ lw_tbl := List.mem_append_right _ (List.mem_of_getElem? (i := 1911) (by decide +kernel))
theorem ml_L_228 : Cond.methodLink RL 228 yL_songs ∈ lw_tbl := List.mem_append_right _ (List.mem_of_getElem? (i := 1296) (by decide +kernel))
theorem ml_L_231 : Cond.methodLink RL 231 yX12_songs ∈ lw_tbl := List.mem_append_right _ (List.mem_of_getElem? (i := 1970) (by decide +kernel))
theorem ml_L_232 : Cond.methodLink RL 232 yL_ask ∈ lw_tbl := List.mem_append_right _ (List.mem_of_getElem? (i := 1316) (by decide +kernel))
theorem ml_L_234 : Cond.methodLink RL 234 yX12_ask ∈ lw_tbl := List.mem_append_right _ (List.mem_of_getElem? (i := 1986) (by decide +kernel))
theorem ml_L_235 : Cond.methodLink RL 235 yL_tell ∈ lw_tbl := List.mem_append_right _ (List.mem_of_getElem? (i := 1328) (by decide +kernel))
theorem ml_L_237 : Cond.methodLink RL 237 yX12_tell ∈ lw_tbl := List.mem_append_right _ (List.mem_of_getElem? (i := 1788) (by decide +kernel))
theorem ml_L_238 : Cond.methodLink RL 238 yX11_alike ∈ lw_tbl := List.mem_append_right _ (List.mem_of_getElem? (i := 505) (by decide +kernel))
theorem ml_L_241 : Cond.methodLink RL 241 yX12_alike ∈ lw_tbl := List.mem_append_right _ (List.mem_of_getElem? (i := 1848) (by decide +kernel))
theorem ml_L_242 : Cond.methodLink RL 242 yL_lasts ∈ lw_tbl := List.mem_append_right _ (List.mem_of_getElem? (i := 1335) (by decide +kernel))
theorem ml_L_244 : Cond.methodLink RL 244 yX12_lasts ∈ lw_tbl := List.mem_append_right _ (List.mem_of_getElem? (i := 1990) (by decide +kernel))
theorem ml_L_245 : Cond.methodLink RL 245 yX11_rich ∈ lw_tbl := List.mem_append_right _ (List.mem_of_getElem? (i := 572) (by decide +kernel))
theorem ml_L_248 : Cond.methodLink RL 248 yX12_rich ∈ lw_tbl := List.mem_append_right _ (List.mem_of_getElem? (i := 1994) (by decide +kernel))
theorem ml_L_249 : Cond.methodLink RL 249 yL_won ∈ lw_tbl := List.mem_append_right _ (List.mem_of_getElem? (i := 1342) (by decide +kernel))
theorem ml_L_251 : Cond.methodLink RL 251 yX12_won ∈ lw_tbl := List.mem_append_right _ (List.mem_of_getElem? (i := 2002) (by decide +kernel))
theorem ml_L_252 : Cond.methodLink RL 252 yX11_cover ∈ lw_tbl := List.mem_append_right _ (List.mem_of_getElem? (i := 580) (by decide +kernel))
theorem ml_L_255 : Cond.methodLink RL 255 yX12_cover ∈ lw_tbl := List.mem_append_right _ (List.mem_of_getElem? (i := 2006) (by decide +kernel))
theorem ml_L_256 : Cond.methodLink RL 256 yL_widest ∈ lw_tbl := List.mem_append_right _ (List.mem_of_getElem? (i := 1349) (by decide +kernel))
theorem ml_L_258 : Cond.methodLink RL 258 yX12_widest ∈ lw_tbl := List.mem_append_right _ (List.mem_of_getElem? (i := 1792) (by decide +kernel))
theorem ml_L_259 : Cond.methodLink RL 259 yL_trial ∈ lw_tbl := List.mem_append_right _ (List.mem_of_getElem? (i := 1356) (by decide +kernel))
theorem ml_L_261 : Cond.methodLink RL 261 yX12_trial ∈ lw_tbl := List.mem_append_right _ (List.mem_of_getElem? (i := 2015) (by decide +kernel))
theorem ml_L_262 : Cond.methodLink RL 262 yL_span ∈ lw_tbl := List.mem_append_right _ (List.mem_of_getElem? (i := 1371) (by decide +kernel))
theorem ml_L_265 : Cond.methodLink RL 265 yX12_span ∈ lw_tbl := List.mem_append_right _ (List.mem_of_getElem? (i := 2023) (by decide +kernel))
theorem ml_L_266 : Cond.methodLink RL 266 yL_led ∈ lw_tbl := List.mem_append_right _ (List.mem_of_getElem? (i := 1378) (by decide +kernel))
theorem ml_L_268 : Cond.methodLink RL 268 yX12_led ∈ lw_tbl := List.mem_append_right _ (List.mem_of_getElem? (i := 2027) (by decide +kernel))
theorem ml_L_269 : Cond.methodLink RL 269 yL_log ∈ lw_tbl := List.mem_append_right _ (List.mem_of_getElem? (i := 1389) (by decide +kernel))
theorem ml_L_271 : Cond.methodLink RL 271 yX12_log ∈ lw_tbl := List.mem_append_right _ (List.mem_of_getElem? (i := 2035) (by decide +kernel))
theorem ml_L_272 : Cond.methodLink RL 272 yX11_seed ∈ lw_tbl := List.mem_append_right _ (List.mem_of_getElem? (i := 501) (by decide +kernel))
theorem ml_L_275 : Cond.methodLink RL 275 yX12_seed ∈ lw_tbl := List.mem_append_right _ (List.mem_of_getElem? (i := 2039) (by decide +kernel))
theorem ml_L_276 : Cond.methodLink RL 276 yX11_undo ∈ lw_tbl := List.mem_append_right _ (List.mem_of_getElem? (i := 594) (by decide +kernel))
theorem ml_L_280 : Cond.methodLink RL 280 yX12_undo ∈ lw_tbl := List.mem_append_right _ (List.mem_of_getElem? (i := 1505) (by decide +kernel))
theorem ml_L_281 : Cond.methodLink RL 281 yX11_image ∈ lw_tbl := List.mem_append_right _ (List.mem_of_getElem? (i := 617) (by decide +kernel))
theorem ml_L_284 : Cond.methodLink RL 284 yX12_image ∈ lw_tbl := List.mem_append_right _ (List.mem_of_getElem? (i := 1497) (by decide +kernel))
theorem ml_L_285 : Cond.methodLink RL 285 yX11_back ∈ lw_tbl := List.mem_append_right _ (List.mem_of_getElem? (i := 626) (by decide +kernel))
theorem ml_L_288 : Cond.methodLink RL 288 yX12_back ∈ lw_tbl := List.mem_append_right _ (List.mem_of_getElem? (i := 1501) (by decide +kernel))
theorem ml_L_289 : Cond.methodLink RL 289 yX11_count ∈ lw_tbl := List.mem_append_right _ (List.mem_of_getElem? (i := 489) (by decide +kernel))
theorem ml_L_292 : Cond.methodLink RL 292 yX12_count ∈ lw_tbl := List.mem_append_right _ (List.mem_of_getElem? (i := 2043) (by decide +kernel))
def f_L_law__j2845 (G : ea_G) (x18 : Int32) (m19 : ea_M) : Option ((Int32 × ea_M) ⊕ ((Int32 × ea_M) ⊕ (ea_M))) :=
  if Int32.toNatClampNeg (x18 + 6) = Int32.toNatClampNeg x18 + 6 then some (.inl (x18 + 6, m19)) else none
def f_L_law__j232 (G : ea_G) (x2 : Int32) (m3 : ea_M) : Option ((Int32 × ea_M) ⊕ ((Int32 × ea_M) ⊕ (ea_M))) :=
  ea_g (x2 + 1) (ea_L G) (ea_bd (ea_xs G (Int32.toNatClampNeg (x2 + 1))) fun x4 =>
  ea_g (x2 + 2) (ea_L G) (ea_bd (ea_xs G (Int32.toNatClampNeg (x2 + 2))) fun x5 =>
  ea_g (x2 + 3) (ea_L G) (ea_bd (ea_xs G (Int32.toNatClampNeg (x2 + 3))) fun x6 =>
  ea_g (x2 + 4) (ea_L G) (ea_bd (ea_xs G (Int32.toNatClampNeg (x2 + 4))) fun x7 =>
  ea_g (x2 + 5) (ea_L G) (ea_bd (ea_xs G (Int32.toNatClampNeg (x2 + 5))) fun x8 =>
  ea_cl (f_X11_feed x4 x5 x6 x7 x8 m3) fun r10 m9 =>
  ea_g (x2 + 1) (ea_L G) (ea_bd (ea_xs G (Int32.toNatClampNeg (x2 + 1))) fun x11 =>
  ea_g (x2 + 2) (ea_L G) (ea_bd (ea_xs G (Int32.toNatClampNeg (x2 + 2))) fun x12 =>
  ea_g (x2 + 3) (ea_L G) (ea_bd (ea_xs G (Int32.toNatClampNeg (x2 + 3))) fun x13 =>
  ea_g (x2 + 4) (ea_L G) (ea_bd (ea_xs G (Int32.toNatClampNeg (x2 + 4))) fun x14 =>
  ea_g (x2 + 5) (ea_L G) (ea_bd (ea_xs G (Int32.toNatClampNeg (x2 + 5))) fun x15 =>
  ea_cl (f_X12_feed x11 x12 x13 x14 x15 m9) fun r17 m16 =>
  if r10 = r17 then
  f_L_law__j2845 G x2 m16
  else
  some (.inr (.inl (0, m16)))))))))))))
def f_L_law__j305 (G : ea_G) (x20 : Int32) (m21 : ea_M) : Option ((Int32 × ea_M) ⊕ ((Int32 × ea_M) ⊕ (ea_M))) :=
  ea_g (x20 + 1) (ea_L G) (ea_bd (ea_xs G (Int32.toNatClampNeg (x20 + 1))) fun x22 =>
  ea_cl (f_X11_end x22 m21) fun r24 m23 =>
  ea_g (x20 + 1) (ea_L G) (ea_bd (ea_xs G (Int32.toNatClampNeg (x20 + 1))) fun x25 =>
  ea_cl (f_X12_end x25 m23) fun r27 m26 =>
  if r24 = r27 then
  f_L_law__j2845 G x20 m26
  else
  some (.inr (.inl (0, m26)))))
def f_L_law__j371 (G : ea_G) (x36 : Int32) (m37 : ea_M) : Option ((Int32 × ea_M) ⊕ ((Int32 × ea_M) ⊕ (ea_M))) :=
  f_L_law__j2845 G x36 m37
def f_L_law__j330 (G : ea_G) (x28 : Int32) (m29 : ea_M) : Option ((Int32 × ea_M) ⊕ ((Int32 × ea_M) ⊕ (ea_M))) :=
  ea_cl (f_L_court m29) fun r31 m30 =>
  ea_cl (f_X12_court m30) fun r33 m32 =>
  ea_cl (f_X12_thrown m32) fun r35 m34 =>
  if r35 = r31 then
  if r31 = 0 then
  if (lg_cmp ((m34 287 0).toInt64) r33.toInt64) = 0 then
  f_L_law__j371 G x28 m34
  else
  some (.inr (.inl (0, m34)))
  else
  f_L_law__j371 G x28 m34
  else
  some (.inr (.inl (0, m34)))
def f_L_law__j415 (G : ea_G) (x46 : Int32) (m47 : ea_M) : Option ((Int32 × ea_M) ⊕ ((Int32 × ea_M) ⊕ (ea_M))) :=
  f_L_law__j2845 G x46 m47
def f_L_law__j374 (G : ea_G) (x38 : Int32) (m39 : ea_M) : Option ((Int32 × ea_M) ⊕ ((Int32 × ea_M) ⊕ (ea_M))) :=
  ea_cl (f_L_law m39) fun r41 m40 =>
  ea_cl (f_X12_law m40) fun r43 m42 =>
  ea_cl (f_X12_thrown m42) fun r45 m44 =>
  if r45 = r41 then
  if r41 = 0 then
  if (lg_cmp ((m44 287 0).toInt64) r43.toInt64) = 0 then
  f_L_law__j415 G x38 m44
  else
  some (.inr (.inl (0, m44)))
  else
  f_L_law__j415 G x38 m44
  else
  some (.inr (.inl (0, m44)))
def f_L_law__j418 (G : ea_G) (x48 : Int32) (m49 : ea_M) : Option ((Int32 × ea_M) ⊕ ((Int32 × ea_M) ⊕ (ea_M))) :=
  ea_cl (f_X11_fault m49) fun r51 m50 =>
  ea_cl (f_X12_fault m50) fun r53 m52 =>
  if r51 = r53 then
  f_L_law__j2845 G x48 m52
  else
  some (.inr (.inl (0, m52)))
def f_L_law__j496 (G : ea_G) (x66 : Int32) (m67 : ea_M) : Option ((Int32 × ea_M) ⊕ ((Int32 × ea_M) ⊕ (ea_M))) :=
  f_L_law__j2845 G x66 m67
def f_L_law__j431 (G : ea_G) (x54 : Int32) (m55 : ea_M) : Option ((Int32 × ea_M) ⊕ ((Int32 × ea_M) ⊕ (ea_M))) :=
  ea_g (x54 + 1) (ea_L G) (ea_bd (ea_xs G (Int32.toNatClampNeg (x54 + 1))) fun x56 =>
  ea_g (x54 + 2) (ea_L G) (ea_bd (ea_xs G (Int32.toNatClampNeg (x54 + 2))) fun x57 =>
  ea_cl (f_L_bird x56 x57 m55) fun r59 m58 =>
  ea_g (x54 + 1) (ea_L G) (ea_bd (ea_xs G (Int32.toNatClampNeg (x54 + 1))) fun x60 =>
  ea_g (x54 + 2) (ea_L G) (ea_bd (ea_xs G (Int32.toNatClampNeg (x54 + 2))) fun x61 =>
  ea_cl (f_X12_bird x60 x61 m58) fun r63 m62 =>
  ea_cl (f_X12_thrown m62) fun r65 m64 =>
  if r65 = r59 then
  if r59 = 0 then
  if (lg_cmp ((m64 287 0).toInt64) r63.toInt64) = 0 then
  f_L_law__j496 G x54 m64
  else
  some (.inr (.inl (0, m64)))
  else
  f_L_law__j496 G x54 m64
  else
  some (.inr (.inl (0, m64)))))))
def f_L_law__j564 (G : ea_G) (x80 : Int32) (m81 : ea_M) : Option ((Int32 × ea_M) ⊕ ((Int32 × ea_M) ⊕ (ea_M))) :=
  f_L_law__j2845 G x80 m81
def f_L_law__j499 (G : ea_G) (x68 : Int32) (m69 : ea_M) : Option ((Int32 × ea_M) ⊕ ((Int32 × ea_M) ⊕ (ea_M))) :=
  ea_g (x68 + 1) (ea_L G) (ea_bd (ea_xs G (Int32.toNatClampNeg (x68 + 1))) fun x70 =>
  ea_g (x68 + 2) (ea_L G) (ea_bd (ea_xs G (Int32.toNatClampNeg (x68 + 2))) fun x71 =>
  ea_cl (f_L_stock x70 x71 m69) fun r73 m72 =>
  ea_g (x68 + 1) (ea_L G) (ea_bd (ea_xs G (Int32.toNatClampNeg (x68 + 1))) fun x74 =>
  ea_g (x68 + 2) (ea_L G) (ea_bd (ea_xs G (Int32.toNatClampNeg (x68 + 2))) fun x75 =>
  ea_cl (f_X12_stock x74 x75 m72) fun r77 m76 =>
  ea_cl (f_X12_thrown m76) fun r79 m78 =>
  if r79 = r73 then
  if r73 = 0 then
  if (lg_cmp ((m78 287 0).toInt64) r77.toInt64) = 0 then
  f_L_law__j564 G x68 m78
  else
  some (.inr (.inl (0, m78)))
  else
  f_L_law__j564 G x68 m78
  else
  some (.inr (.inl (0, m78)))))))
def f_L_law__j632 (G : ea_G) (x94 : Int32) (m95 : ea_M) : Option ((Int32 × ea_M) ⊕ ((Int32 × ea_M) ⊕ (ea_M))) :=
  f_L_law__j2845 G x94 m95
def f_L_law__j567 (G : ea_G) (x82 : Int32) (m83 : ea_M) : Option ((Int32 × ea_M) ⊕ ((Int32 × ea_M) ⊕ (ea_M))) :=
  ea_g (x82 + 1) (ea_L G) (ea_bd (ea_xs G (Int32.toNatClampNeg (x82 + 1))) fun x84 =>
  ea_g (x82 + 2) (ea_L G) (ea_bd (ea_xs G (Int32.toNatClampNeg (x82 + 2))) fun x85 =>
  ea_cl (f_L_matter x84 x85 m83) fun r87 m86 =>
  ea_g (x82 + 1) (ea_L G) (ea_bd (ea_xs G (Int32.toNatClampNeg (x82 + 1))) fun x88 =>
  ea_g (x82 + 2) (ea_L G) (ea_bd (ea_xs G (Int32.toNatClampNeg (x82 + 2))) fun x89 =>
  ea_cl (f_X12_matter x88 x89 m86) fun r91 m90 =>
  ea_cl (f_X12_thrown m90) fun r93 m92 =>
  if r93 = r87 then
  if r87 = 0 then
  if (lg_cmp ((m92 287 0).toInt64) r91.toInt64) = 0 then
  f_L_law__j632 G x82 m92
  else
  some (.inr (.inl (0, m92)))
  else
  f_L_law__j632 G x82 m92
  else
  some (.inr (.inl (0, m92)))))))
def f_L_law__j688 (G : ea_G) (x106 : Int32) (m107 : ea_M) : Option ((Int32 × ea_M) ⊕ ((Int32 × ea_M) ⊕ (ea_M))) :=
  f_L_law__j2845 G x106 m107
def f_L_law__j635 (G : ea_G) (x96 : Int32) (m97 : ea_M) : Option ((Int32 × ea_M) ⊕ ((Int32 × ea_M) ⊕ (ea_M))) :=
  ea_g (x96 + 1) (ea_L G) (ea_bd (ea_xs G (Int32.toNatClampNeg (x96 + 1))) fun x98 =>
  ea_cl (f_L_wind x98 m97) fun r100 m99 =>
  ea_g (x96 + 1) (ea_L G) (ea_bd (ea_xs G (Int32.toNatClampNeg (x96 + 1))) fun x101 =>
  ea_cl (f_X12_wind x101 m99) fun r103 m102 =>
  ea_cl (f_X12_thrown m102) fun r105 m104 =>
  if r105 = r100 then
  if r100 = 0 then
  if (lg_cmp ((m104 287 0).toInt64) r103.toInt64) = 0 then
  f_L_law__j688 G x96 m104
  else
  some (.inr (.inl (0, m104)))
  else
  f_L_law__j688 G x96 m104
  else
  some (.inr (.inl (0, m104)))))
def f_L_law__j808 (G : ea_G) (x141 : Int32) (m142 : ea_M) : Option ((Int32 × ea_M) ⊕ ((Int32 × ea_M) ⊕ (ea_M))) :=
  f_L_law__j2845 G x141 m142
def f_L_law__j775 (G : ea_G) (x129 : Int32) (x130 : Int32) (x131 : Int32) (x132 : Int32) (x133 : Int32) (x134 : Int32) (x135 : Int32) (m136 : ea_M) : Option ((Int32 × ea_M) ⊕ ((Int32 × ea_M) ⊕ (ea_M))) :=
  ea_cl (f_X12_moves x131 x132 x133 x134 x135 m136) fun r138 m137 =>
  ea_cl (f_X12_thrown m137) fun r140 m139 =>
  if r140 = x130 then
  if x130 = 0 then
  if (lg_cmp ((m139 287 0).toInt64) r138.toInt64) = 0 then
  f_L_law__j808 G x129 m139
  else
  some (.inr (.inl (0, m139)))
  else
  f_L_law__j808 G x129 m139
  else
  some (.inr (.inl (0, m139)))
def f_L_law__j730 (G : ea_G) (x115 : Int32) (x116 : Int32) (x117 : Int32) (x118 : Int32) (x119 : Int32) (x120 : Int32) (m121 : ea_M) : Option ((Int32 × ea_M) ⊕ ((Int32 × ea_M) ⊕ (ea_M))) :=
  ea_cl (f_L_moves x116 x117 x118 x119 x120 m121) fun r123 m122 =>
  ea_g (x115 + 1) (ea_L G) (ea_bd (ea_xs G (Int32.toNatClampNeg (x115 + 1))) fun x124 =>
  ea_g (x115 + 2) (ea_L G) (ea_bd (ea_xs G (Int32.toNatClampNeg (x115 + 2))) fun x125 =>
  ea_g (x115 + 3) (ea_L G) (ea_bd (ea_xs G (Int32.toNatClampNeg (x115 + 3))) fun x126 =>
  ea_g (x115 + 4) (ea_L G) (ea_bd (ea_xs G (Int32.toNatClampNeg (x115 + 4))) fun x127 =>
  ea_g (x115 + 5) (ea_L G) (ea_bd (ea_xs G (Int32.toNatClampNeg (x115 + 5))) fun x128 =>
  if x128 = 0 then
  f_L_law__j775 G x115 r123 x124 x125 x126 x127 0 m122
  else
  f_L_law__j775 G x115 r123 x124 x125 x126 x127 1 m122)))))
def f_L_law__j691 (G : ea_G) (x108 : Int32) (m109 : ea_M) : Option ((Int32 × ea_M) ⊕ ((Int32 × ea_M) ⊕ (ea_M))) :=
  ea_g (x108 + 1) (ea_L G) (ea_bd (ea_xs G (Int32.toNatClampNeg (x108 + 1))) fun x110 =>
  ea_g (x108 + 2) (ea_L G) (ea_bd (ea_xs G (Int32.toNatClampNeg (x108 + 2))) fun x111 =>
  ea_g (x108 + 3) (ea_L G) (ea_bd (ea_xs G (Int32.toNatClampNeg (x108 + 3))) fun x112 =>
  ea_g (x108 + 4) (ea_L G) (ea_bd (ea_xs G (Int32.toNatClampNeg (x108 + 4))) fun x113 =>
  ea_g (x108 + 5) (ea_L G) (ea_bd (ea_xs G (Int32.toNatClampNeg (x108 + 5))) fun x114 =>
  if x114 = 0 then
  f_L_law__j730 G x108 x110 x111 x112 x113 0 m109
  else
  f_L_law__j730 G x108 x110 x111 x112 x113 1 m109)))))
def f_L_law__j888 (G : ea_G) (x157 : Int32) (m158 : ea_M) : Option ((Int32 × ea_M) ⊕ ((Int32 × ea_M) ⊕ (ea_M))) :=
  f_L_law__j2845 G x157 m158
def f_L_law__j811 (G : ea_G) (x143 : Int32) (m144 : ea_M) : Option ((Int32 × ea_M) ⊕ ((Int32 × ea_M) ⊕ (ea_M))) :=
  ea_g (x143 + 1) (ea_L G) (ea_bd (ea_xs G (Int32.toNatClampNeg (x143 + 1))) fun x145 =>
  ea_g (x143 + 2) (ea_L G) (ea_bd (ea_xs G (Int32.toNatClampNeg (x143 + 2))) fun x146 =>
  ea_g (x143 + 3) (ea_L G) (ea_bd (ea_xs G (Int32.toNatClampNeg (x143 + 3))) fun x147 =>
  ea_cl (f_L_call x145 x146 x147 m144) fun r149 m148 =>
  ea_g (x143 + 1) (ea_L G) (ea_bd (ea_xs G (Int32.toNatClampNeg (x143 + 1))) fun x150 =>
  ea_g (x143 + 2) (ea_L G) (ea_bd (ea_xs G (Int32.toNatClampNeg (x143 + 2))) fun x151 =>
  ea_g (x143 + 3) (ea_L G) (ea_bd (ea_xs G (Int32.toNatClampNeg (x143 + 3))) fun x152 =>
  ea_cl (f_X12_call x150 x151 x152 m148) fun r154 m153 =>
  ea_cl (f_X12_thrown m153) fun r156 m155 =>
  if r156 = r149 then
  if r149 = 0 then
  if (lg_cmp ((m155 287 0).toInt64) r154.toInt64) = 0 then
  f_L_law__j888 G x143 m155
  else
  some (.inr (.inl (0, m155)))
  else
  f_L_law__j888 G x143 m155
  else
  some (.inr (.inl (0, m155)))))))))
def f_L_law__j944 (G : ea_G) (x169 : Int32) (m170 : ea_M) : Option ((Int32 × ea_M) ⊕ ((Int32 × ea_M) ⊕ (ea_M))) :=
  f_L_law__j2845 G x169 m170
def f_L_law__j891 (G : ea_G) (x159 : Int32) (m160 : ea_M) : Option ((Int32 × ea_M) ⊕ ((Int32 × ea_M) ⊕ (ea_M))) :=
  ea_g (x159 + 1) (ea_L G) (ea_bd (ea_xs G (Int32.toNatClampNeg (x159 + 1))) fun x161 =>
  ea_cl (f_L_hour x161 m160) fun r163 m162 =>
  ea_g (x159 + 1) (ea_L G) (ea_bd (ea_xs G (Int32.toNatClampNeg (x159 + 1))) fun x164 =>
  ea_cl (f_X12_hour x164 m162) fun r166 m165 =>
  ea_cl (f_X12_thrown m165) fun r168 m167 =>
  if r168 = r163 then
  if r163 = 0 then
  if (lg_cmp ((m167 287 0).toInt64) r166.toInt64) = 0 then
  f_L_law__j944 G x159 m167
  else
  some (.inr (.inl (0, m167)))
  else
  f_L_law__j944 G x159 m167
  else
  some (.inr (.inl (0, m167)))))
def f_L_law__j1012 (G : ea_G) (x183 : Int32) (m184 : ea_M) : Option ((Int32 × ea_M) ⊕ ((Int32 × ea_M) ⊕ (ea_M))) :=
  f_L_law__j2845 G x183 m184
def f_L_law__j947 (G : ea_G) (x171 : Int32) (m172 : ea_M) : Option ((Int32 × ea_M) ⊕ ((Int32 × ea_M) ⊕ (ea_M))) :=
  ea_g (x171 + 1) (ea_L G) (ea_bd (ea_xs G (Int32.toNatClampNeg (x171 + 1))) fun x173 =>
  ea_g (x171 + 2) (ea_L G) (ea_bd (ea_xs G (Int32.toNatClampNeg (x171 + 2))) fun x174 =>
  ea_cl (f_L_blow x173 x174 m172) fun r176 m175 =>
  ea_g (x171 + 1) (ea_L G) (ea_bd (ea_xs G (Int32.toNatClampNeg (x171 + 1))) fun x177 =>
  ea_g (x171 + 2) (ea_L G) (ea_bd (ea_xs G (Int32.toNatClampNeg (x171 + 2))) fun x178 =>
  ea_cl (f_X12_blow x177 x178 m175) fun r180 m179 =>
  ea_cl (f_X12_thrown m179) fun r182 m181 =>
  if r182 = r176 then
  if r176 = 0 then
  if (lg_cmp ((m181 287 0).toInt64) r180.toInt64) = 0 then
  f_L_law__j1012 G x171 m181
  else
  some (.inr (.inl (0, m181)))
  else
  f_L_law__j1012 G x171 m181
  else
  some (.inr (.inl (0, m181)))))))
def f_L_law__j1104 (G : ea_G) (x201 : Int32) (m202 : ea_M) : Option ((Int32 × ea_M) ⊕ ((Int32 × ea_M) ⊕ (ea_M))) :=
  f_L_law__j2845 G x201 m202
def f_L_law__j1015 (G : ea_G) (x185 : Int32) (m186 : ea_M) : Option ((Int32 × ea_M) ⊕ ((Int32 × ea_M) ⊕ (ea_M))) :=
  ea_g (x185 + 1) (ea_L G) (ea_bd (ea_xs G (Int32.toNatClampNeg (x185 + 1))) fun x187 =>
  ea_g (x185 + 2) (ea_L G) (ea_bd (ea_xs G (Int32.toNatClampNeg (x185 + 2))) fun x188 =>
  ea_g (x185 + 3) (ea_L G) (ea_bd (ea_xs G (Int32.toNatClampNeg (x185 + 3))) fun x189 =>
  ea_g (x185 + 4) (ea_L G) (ea_bd (ea_xs G (Int32.toNatClampNeg (x185 + 4))) fun x190 =>
  ea_cl (f_L_give x187 x188 x189 x190 m186) fun r192 m191 =>
  ea_g (x185 + 1) (ea_L G) (ea_bd (ea_xs G (Int32.toNatClampNeg (x185 + 1))) fun x193 =>
  ea_g (x185 + 2) (ea_L G) (ea_bd (ea_xs G (Int32.toNatClampNeg (x185 + 2))) fun x194 =>
  ea_g (x185 + 3) (ea_L G) (ea_bd (ea_xs G (Int32.toNatClampNeg (x185 + 3))) fun x195 =>
  ea_g (x185 + 4) (ea_L G) (ea_bd (ea_xs G (Int32.toNatClampNeg (x185 + 4))) fun x196 =>
  ea_cl (f_X12_give x193 x194 x195 x196 m191) fun r198 m197 =>
  ea_cl (f_X12_thrown m197) fun r200 m199 =>
  if r200 = r192 then
  if r192 = 0 then
  if (lg_cmp ((m199 287 0).toInt64) r198.toInt64) = 0 then
  f_L_law__j1104 G x185 m199
  else
  some (.inr (.inl (0, m199)))
  else
  f_L_law__j1104 G x185 m199
  else
  some (.inr (.inl (0, m199)))))))))))
def f_L_law__j1160 (G : ea_G) (x213 : Int32) (m214 : ea_M) : Option ((Int32 × ea_M) ⊕ ((Int32 × ea_M) ⊕ (ea_M))) :=
  f_L_law__j2845 G x213 m214
def f_L_law__j1107 (G : ea_G) (x203 : Int32) (m204 : ea_M) : Option ((Int32 × ea_M) ⊕ ((Int32 × ea_M) ⊕ (ea_M))) :=
  ea_g (x203 + 1) (ea_L G) (ea_bd (ea_xs G (Int32.toNatClampNeg (x203 + 1))) fun x205 =>
  ea_cl (f_L_appeal x205 m204) fun r207 m206 =>
  ea_g (x203 + 1) (ea_L G) (ea_bd (ea_xs G (Int32.toNatClampNeg (x203 + 1))) fun x208 =>
  ea_cl (f_X12_appeal x208 m206) fun r210 m209 =>
  ea_cl (f_X12_thrown m209) fun r212 m211 =>
  if r212 = r207 then
  if r207 = 0 then
  if (lg_cmp ((m211 287 0).toInt64) r210.toInt64) = 0 then
  f_L_law__j1160 G x203 m211
  else
  some (.inr (.inl (0, m211)))
  else
  f_L_law__j1160 G x203 m211
  else
  some (.inr (.inl (0, m211)))))
def f_L_law__j1216 (G : ea_G) (x225 : Int32) (m226 : ea_M) : Option ((Int32 × ea_M) ⊕ ((Int32 × ea_M) ⊕ (ea_M))) :=
  f_L_law__j2845 G x225 m226
def f_L_law__j1163 (G : ea_G) (x215 : Int32) (m216 : ea_M) : Option ((Int32 × ea_M) ⊕ ((Int32 × ea_M) ⊕ (ea_M))) :=
  ea_g (x215 + 1) (ea_L G) (ea_bd (ea_xs G (Int32.toNatClampNeg (x215 + 1))) fun x217 =>
  ea_cl (f_L_weeks x217 m216) fun r219 m218 =>
  ea_g (x215 + 1) (ea_L G) (ea_bd (ea_xs G (Int32.toNatClampNeg (x215 + 1))) fun x220 =>
  ea_cl (f_X12_weeks x220 m218) fun r222 m221 =>
  ea_cl (f_X12_thrown m221) fun r224 m223 =>
  if r224 = r219 then
  if r219 = 0 then
  if (lg_cmp ((m223 287 0).toInt64) r222.toInt64) = 0 then
  f_L_law__j1216 G x215 m223
  else
  some (.inr (.inl (0, m223)))
  else
  f_L_law__j1216 G x215 m223
  else
  some (.inr (.inl (0, m223)))))
def f_L_law__j1284 (G : ea_G) (x239 : Int32) (m240 : ea_M) : Option ((Int32 × ea_M) ⊕ ((Int32 × ea_M) ⊕ (ea_M))) :=
  f_L_law__j2845 G x239 m240
def f_L_law__j1219 (G : ea_G) (x227 : Int32) (m228 : ea_M) : Option ((Int32 × ea_M) ⊕ ((Int32 × ea_M) ⊕ (ea_M))) :=
  ea_g (x227 + 1) (ea_L G) (ea_bd (ea_xs G (Int32.toNatClampNeg (x227 + 1))) fun x229 =>
  ea_g (x227 + 2) (ea_L G) (ea_bd (ea_xs G (Int32.toNatClampNeg (x227 + 2))) fun x230 =>
  ea_cl (f_L_ways x229 x230 m228) fun r232 m231 =>
  ea_g (x227 + 1) (ea_L G) (ea_bd (ea_xs G (Int32.toNatClampNeg (x227 + 1))) fun x233 =>
  ea_g (x227 + 2) (ea_L G) (ea_bd (ea_xs G (Int32.toNatClampNeg (x227 + 2))) fun x234 =>
  ea_cl (f_X12_ways x233 x234 m231) fun r236 m235 =>
  ea_cl (f_X12_thrown m235) fun r238 m237 =>
  if r238 = r232 then
  if r232 = 0 then
  if (lg_cmp ((m237 287 0).toInt64) r236.toInt64) = 0 then
  f_L_law__j1284 G x227 m237
  else
  some (.inr (.inl (0, m237)))
  else
  f_L_law__j1284 G x227 m237
  else
  some (.inr (.inl (0, m237)))))))
def f_L_law__j1352 (G : ea_G) (x253 : Int32) (m254 : ea_M) : Option ((Int32 × ea_M) ⊕ ((Int32 × ea_M) ⊕ (ea_M))) :=
  f_L_law__j2845 G x253 m254
def f_L_law__j1287 (G : ea_G) (x241 : Int32) (m242 : ea_M) : Option ((Int32 × ea_M) ⊕ ((Int32 × ea_M) ⊕ (ea_M))) :=
  ea_g (x241 + 1) (ea_L G) (ea_bd (ea_xs G (Int32.toNatClampNeg (x241 + 1))) fun x243 =>
  ea_g (x241 + 2) (ea_L G) (ea_bd (ea_xs G (Int32.toNatClampNeg (x241 + 2))) fun x244 =>
  ea_cl (f_L_lands x243 x244 m242) fun r246 m245 =>
  ea_g (x241 + 1) (ea_L G) (ea_bd (ea_xs G (Int32.toNatClampNeg (x241 + 1))) fun x247 =>
  ea_g (x241 + 2) (ea_L G) (ea_bd (ea_xs G (Int32.toNatClampNeg (x241 + 2))) fun x248 =>
  ea_cl (f_X12_lands x247 x248 m245) fun r250 m249 =>
  ea_cl (f_X12_thrown m249) fun r252 m251 =>
  if r252 = r246 then
  if r246 = 0 then
  if (lg_cmp ((m251 287 0).toInt64) r250.toInt64) = 0 then
  f_L_law__j1352 G x241 m251
  else
  some (.inr (.inl (0, m251)))
  else
  f_L_law__j1352 G x241 m251
  else
  some (.inr (.inl (0, m251)))))))
def f_L_law__j1420 (G : ea_G) (x267 : Int32) (m268 : ea_M) : Option ((Int32 × ea_M) ⊕ ((Int32 × ea_M) ⊕ (ea_M))) :=
  f_L_law__j2845 G x267 m268
def f_L_law__j1355 (G : ea_G) (x255 : Int32) (m256 : ea_M) : Option ((Int32 × ea_M) ⊕ ((Int32 × ea_M) ⊕ (ea_M))) :=
  ea_g (x255 + 1) (ea_L G) (ea_bd (ea_xs G (Int32.toNatClampNeg (x255 + 1))) fun x257 =>
  ea_g (x255 + 2) (ea_L G) (ea_bd (ea_xs G (Int32.toNatClampNeg (x255 + 2))) fun x258 =>
  ea_cl (f_L_good x257 x258 m256) fun r260 m259 =>
  ea_g (x255 + 1) (ea_L G) (ea_bd (ea_xs G (Int32.toNatClampNeg (x255 + 1))) fun x261 =>
  ea_g (x255 + 2) (ea_L G) (ea_bd (ea_xs G (Int32.toNatClampNeg (x255 + 2))) fun x262 =>
  ea_cl (f_X12_good x261 x262 m259) fun r264 m263 =>
  ea_cl (f_X12_thrown m263) fun r266 m265 =>
  if r266 = r260 then
  if r260 = 0 then
  if (lg_cmp ((m265 287 0).toInt64) r264.toInt64) = 0 then
  f_L_law__j1420 G x255 m265
  else
  some (.inr (.inl (0, m265)))
  else
  f_L_law__j1420 G x255 m265
  else
  some (.inr (.inl (0, m265)))))))
def f_L_law__j1504 (G : ea_G) (x290 : Int32) (m291 : ea_M) : Option ((Int32 × ea_M) ⊕ ((Int32 × ea_M) ⊕ (ea_M))) :=
  f_L_law__j2845 G x290 m291
def f_L_law__j1471 (G : ea_G) (x281 : Int32) (x282 : Int32) (x283 : Int32) (x284 : Int32) (m285 : ea_M) : Option ((Int32 × ea_M) ⊕ ((Int32 × ea_M) ⊕ (ea_M))) :=
  ea_cl (f_X12_straight x283 x284 m285) fun r287 m286 =>
  ea_cl (f_X12_thrown m286) fun r289 m288 =>
  if r289 = x282 then
  if x282 = 0 then
  if (lg_cmp ((m288 287 0).toInt64) r287.toInt64) = 0 then
  f_L_law__j1504 G x281 m288
  else
  some (.inr (.inl (0, m288)))
  else
  f_L_law__j1504 G x281 m288
  else
  some (.inr (.inl (0, m288)))
def f_L_law__j1444 (G : ea_G) (x273 : Int32) (x274 : Int32) (x275 : Int32) (m276 : ea_M) : Option ((Int32 × ea_M) ⊕ ((Int32 × ea_M) ⊕ (ea_M))) :=
  ea_cl (f_L_straight x274 x275 m276) fun r278 m277 =>
  ea_g (x273 + 1) (ea_L G) (ea_bd (ea_xs G (Int32.toNatClampNeg (x273 + 1))) fun x279 =>
  ea_g (x273 + 2) (ea_L G) (ea_bd (ea_xs G (Int32.toNatClampNeg (x273 + 2))) fun x280 =>
  if x280 = 0 then
  f_L_law__j1471 G x273 r278 x279 0 m277
  else
  f_L_law__j1471 G x273 r278 x279 1 m277))
def f_L_law__j1423 (G : ea_G) (x269 : Int32) (m270 : ea_M) : Option ((Int32 × ea_M) ⊕ ((Int32 × ea_M) ⊕ (ea_M))) :=
  ea_g (x269 + 1) (ea_L G) (ea_bd (ea_xs G (Int32.toNatClampNeg (x269 + 1))) fun x271 =>
  ea_g (x269 + 2) (ea_L G) (ea_bd (ea_xs G (Int32.toNatClampNeg (x269 + 2))) fun x272 =>
  if x272 = 0 then
  f_L_law__j1444 G x269 x271 0 m270
  else
  f_L_law__j1444 G x269 x271 1 m270))
def f_L_law__j1584 (G : ea_G) (x306 : Int32) (m307 : ea_M) : Option ((Int32 × ea_M) ⊕ ((Int32 × ea_M) ⊕ (ea_M))) :=
  f_L_law__j2845 G x306 m307
def f_L_law__j1507 (G : ea_G) (x292 : Int32) (m293 : ea_M) : Option ((Int32 × ea_M) ⊕ ((Int32 × ea_M) ⊕ (ea_M))) :=
  ea_g (x292 + 1) (ea_L G) (ea_bd (ea_xs G (Int32.toNatClampNeg (x292 + 1))) fun x294 =>
  ea_g (x292 + 2) (ea_L G) (ea_bd (ea_xs G (Int32.toNatClampNeg (x292 + 2))) fun x295 =>
  ea_g (x292 + 3) (ea_L G) (ea_bd (ea_xs G (Int32.toNatClampNeg (x292 + 3))) fun x296 =>
  ea_cl (f_L_odds x294 x295 x296 m293) fun r298 m297 =>
  ea_g (x292 + 1) (ea_L G) (ea_bd (ea_xs G (Int32.toNatClampNeg (x292 + 1))) fun x299 =>
  ea_g (x292 + 2) (ea_L G) (ea_bd (ea_xs G (Int32.toNatClampNeg (x292 + 2))) fun x300 =>
  ea_g (x292 + 3) (ea_L G) (ea_bd (ea_xs G (Int32.toNatClampNeg (x292 + 3))) fun x301 =>
  ea_cl (f_X12_odds x299 x300 x301 m297) fun r303 m302 =>
  ea_cl (f_X12_thrown m302) fun r305 m304 =>
  if r305 = r298 then
  if r298 = 0 then
  if (lg_cmp ((m304 287 0).toInt64) r303.toInt64) = 0 then
  f_L_law__j1584 G x292 m304
  else
  some (.inr (.inl (0, m304)))
  else
  f_L_law__j1584 G x292 m304
  else
  some (.inr (.inl (0, m304)))))))))
def f_L_law__j1652 (G : ea_G) (x320 : Int32) (m321 : ea_M) : Option ((Int32 × ea_M) ⊕ ((Int32 × ea_M) ⊕ (ea_M))) :=
  f_L_law__j2845 G x320 m321
def f_L_law__j1587 (G : ea_G) (x308 : Int32) (m309 : ea_M) : Option ((Int32 × ea_M) ⊕ ((Int32 × ea_M) ⊕ (ea_M))) :=
  ea_g (x308 + 1) (ea_L G) (ea_bd (ea_xs G (Int32.toNatClampNeg (x308 + 1))) fun x310 =>
  ea_g (x308 + 2) (ea_L G) (ea_bd (ea_xs G (Int32.toNatClampNeg (x308 + 2))) fun x311 =>
  ea_cl (f_L_best x310 x311 m309) fun r313 m312 =>
  ea_g (x308 + 1) (ea_L G) (ea_bd (ea_xs G (Int32.toNatClampNeg (x308 + 1))) fun x314 =>
  ea_g (x308 + 2) (ea_L G) (ea_bd (ea_xs G (Int32.toNatClampNeg (x308 + 2))) fun x315 =>
  ea_cl (f_X12_best x314 x315 m312) fun r317 m316 =>
  ea_cl (f_X12_thrown m316) fun r319 m318 =>
  if r319 = r313 then
  if r313 = 0 then
  if (lg_cmp ((m318 287 0).toInt64) r317.toInt64) = 0 then
  f_L_law__j1652 G x308 m318
  else
  some (.inr (.inl (0, m318)))
  else
  f_L_law__j1652 G x308 m318
  else
  some (.inr (.inl (0, m318)))))))
def f_L_law__j1720 (G : ea_G) (x334 : Int32) (m335 : ea_M) : Option ((Int32 × ea_M) ⊕ ((Int32 × ea_M) ⊕ (ea_M))) :=
  f_L_law__j2845 G x334 m335
def f_L_law__j1655 (G : ea_G) (x322 : Int32) (m323 : ea_M) : Option ((Int32 × ea_M) ⊕ ((Int32 × ea_M) ⊕ (ea_M))) :=
  ea_g (x322 + 1) (ea_L G) (ea_bd (ea_xs G (Int32.toNatClampNeg (x322 + 1))) fun x324 =>
  ea_g (x322 + 2) (ea_L G) (ea_bd (ea_xs G (Int32.toNatClampNeg (x322 + 2))) fun x325 =>
  ea_cl (f_L_when x324 x325 m323) fun r327 m326 =>
  ea_g (x322 + 1) (ea_L G) (ea_bd (ea_xs G (Int32.toNatClampNeg (x322 + 1))) fun x328 =>
  ea_g (x322 + 2) (ea_L G) (ea_bd (ea_xs G (Int32.toNatClampNeg (x322 + 2))) fun x329 =>
  ea_cl (f_X12_when x328 x329 m326) fun r331 m330 =>
  ea_cl (f_X12_thrown m330) fun r333 m332 =>
  if r333 = r327 then
  if r327 = 0 then
  if (lg_cmp ((m332 287 0).toInt64) r331.toInt64) = 0 then
  f_L_law__j1720 G x322 m332
  else
  some (.inr (.inl (0, m332)))
  else
  f_L_law__j1720 G x322 m332
  else
  some (.inr (.inl (0, m332)))))))
def f_L_law__j1832 (G : ea_G) (x370 : Int32) (m371 : ea_M) : Option ((Int32 × ea_M) ⊕ ((Int32 × ea_M) ⊕ (ea_M))) :=
  f_L_law__j2845 G x370 m371
def f_L_law__j1799 (G : ea_G) (x360 : Int32) (x361 : Int32) (x362 : Int32) (x363 : Int32) (x364 : Int32) (m365 : ea_M) : Option ((Int32 × ea_M) ⊕ ((Int32 × ea_M) ⊕ (ea_M))) :=
  ea_cl (f_X12_surest x362 x363 x364 m365) fun r367 m366 =>
  ea_cl (f_X12_thrown m366) fun r369 m368 =>
  if r369 = x361 then
  if x361 = 0 then
  if (lg_cmp ((m368 287 0).toInt64) r367.toInt64) = 0 then
  f_L_law__j1832 G x360 m368
  else
  some (.inr (.inl (0, m368)))
  else
  f_L_law__j1832 G x360 m368
  else
  some (.inr (.inl (0, m368)))
def f_L_law__j1785 (G : ea_G) (x354 : Int32) (x355 : Int32) (x356 : Int32) (x357 : Int32) (m358 : ea_M) : Option ((Int32 × ea_M) ⊕ ((Int32 × ea_M) ⊕ (ea_M))) :=
  ea_g (x354 + 3) (ea_L G) (ea_bd (ea_xs G (Int32.toNatClampNeg (x354 + 3))) fun x359 =>
  if x359 = 0 then
  f_L_law__j1799 G x354 x355 x356 x357 0 m358
  else
  f_L_law__j1799 G x354 x355 x356 x357 1 m358)
def f_L_law__j1758 (G : ea_G) (x345 : Int32) (x346 : Int32) (x347 : Int32) (x348 : Int32) (m349 : ea_M) : Option ((Int32 × ea_M) ⊕ ((Int32 × ea_M) ⊕ (ea_M))) :=
  ea_cl (f_L_surest x346 x347 x348 m349) fun r351 m350 =>
  ea_g (x345 + 1) (ea_L G) (ea_bd (ea_xs G (Int32.toNatClampNeg (x345 + 1))) fun x352 =>
  ea_g (x345 + 2) (ea_L G) (ea_bd (ea_xs G (Int32.toNatClampNeg (x345 + 2))) fun x353 =>
  if x353 = 0 then
  f_L_law__j1785 G x345 r351 x352 0 m350
  else
  f_L_law__j1785 G x345 r351 x352 1 m350))
def f_L_law__j1744 (G : ea_G) (x340 : Int32) (x341 : Int32) (x342 : Int32) (m343 : ea_M) : Option ((Int32 × ea_M) ⊕ ((Int32 × ea_M) ⊕ (ea_M))) :=
  ea_g (x340 + 3) (ea_L G) (ea_bd (ea_xs G (Int32.toNatClampNeg (x340 + 3))) fun x344 =>
  if x344 = 0 then
  f_L_law__j1758 G x340 x341 x342 0 m343
  else
  f_L_law__j1758 G x340 x341 x342 1 m343)
def f_L_law__j1723 (G : ea_G) (x336 : Int32) (m337 : ea_M) : Option ((Int32 × ea_M) ⊕ ((Int32 × ea_M) ⊕ (ea_M))) :=
  ea_g (x336 + 1) (ea_L G) (ea_bd (ea_xs G (Int32.toNatClampNeg (x336 + 1))) fun x338 =>
  ea_g (x336 + 2) (ea_L G) (ea_bd (ea_xs G (Int32.toNatClampNeg (x336 + 2))) fun x339 =>
  if x339 = 0 then
  f_L_law__j1744 G x336 x338 0 m337
  else
  f_L_law__j1744 G x336 x338 1 m337))
def f_L_law__j1916 (G : ea_G) (x393 : Int32) (m394 : ea_M) : Option ((Int32 × ea_M) ⊕ ((Int32 × ea_M) ⊕ (ea_M))) :=
  f_L_law__j2845 G x393 m394
def f_L_law__j1883 (G : ea_G) (x384 : Int32) (x385 : Int32) (x386 : Int32) (x387 : Int32) (m388 : ea_M) : Option ((Int32 × ea_M) ⊕ ((Int32 × ea_M) ⊕ (ea_M))) :=
  ea_cl (f_X12_rests x386 x387 m388) fun r390 m389 =>
  ea_cl (f_X12_thrown m389) fun r392 m391 =>
  if r392 = x385 then
  if x385 = 0 then
  if (lg_cmp ((m391 287 0).toInt64) r390.toInt64) = 0 then
  f_L_law__j1916 G x384 m391
  else
  some (.inr (.inl (0, m391)))
  else
  f_L_law__j1916 G x384 m391
  else
  some (.inr (.inl (0, m391)))
def f_L_law__j1856 (G : ea_G) (x376 : Int32) (x377 : Int32) (x378 : Int32) (m379 : ea_M) : Option ((Int32 × ea_M) ⊕ ((Int32 × ea_M) ⊕ (ea_M))) :=
  ea_cl (f_L_rests x377 x378 m379) fun r381 m380 =>
  ea_g (x376 + 1) (ea_L G) (ea_bd (ea_xs G (Int32.toNatClampNeg (x376 + 1))) fun x382 =>
  ea_g (x376 + 2) (ea_L G) (ea_bd (ea_xs G (Int32.toNatClampNeg (x376 + 2))) fun x383 =>
  if x383 = 0 then
  f_L_law__j1883 G x376 r381 x382 0 m380
  else
  f_L_law__j1883 G x376 r381 x382 1 m380))
def f_L_law__j1835 (G : ea_G) (x372 : Int32) (m373 : ea_M) : Option ((Int32 × ea_M) ⊕ ((Int32 × ea_M) ⊕ (ea_M))) :=
  ea_g (x372 + 1) (ea_L G) (ea_bd (ea_xs G (Int32.toNatClampNeg (x372 + 1))) fun x374 =>
  ea_g (x372 + 2) (ea_L G) (ea_bd (ea_xs G (Int32.toNatClampNeg (x372 + 2))) fun x375 =>
  if x375 = 0 then
  f_L_law__j1856 G x372 x374 0 m373
  else
  f_L_law__j1856 G x372 x374 1 m373))
def f_L_law__j1972 (G : ea_G) (x405 : Int32) (m406 : ea_M) : Option ((Int32 × ea_M) ⊕ ((Int32 × ea_M) ⊕ (ea_M))) :=
  f_L_law__j2845 G x405 m406
def f_L_law__j1919 (G : ea_G) (x395 : Int32) (m396 : ea_M) : Option ((Int32 × ea_M) ⊕ ((Int32 × ea_M) ⊕ (ea_M))) :=
  ea_g (x395 + 1) (ea_L G) (ea_bd (ea_xs G (Int32.toNatClampNeg (x395 + 1))) fun x397 =>
  ea_cl (f_L_fair x397 m396) fun r399 m398 =>
  ea_g (x395 + 1) (ea_L G) (ea_bd (ea_xs G (Int32.toNatClampNeg (x395 + 1))) fun x400 =>
  ea_cl (f_X12_fair x400 m398) fun r402 m401 =>
  ea_cl (f_X12_thrown m401) fun r404 m403 =>
  if r404 = r399 then
  if r399 = 0 then
  if (lg_cmp ((m403 287 0).toInt64) r402.toInt64) = 0 then
  f_L_law__j1972 G x395 m403
  else
  some (.inr (.inl (0, m403)))
  else
  f_L_law__j1972 G x395 m403
  else
  some (.inr (.inl (0, m403)))))
def f_L_law__j2044 (G : ea_G) (x424 : Int32) (m425 : ea_M) : Option ((Int32 × ea_M) ⊕ ((Int32 × ea_M) ⊕ (ea_M))) :=
  f_L_law__j2845 G x424 m425
def f_L_law__j2011 (G : ea_G) (x416 : Int32) (x417 : Int32) (x418 : Int32) (m419 : ea_M) : Option ((Int32 × ea_M) ⊕ ((Int32 × ea_M) ⊕ (ea_M))) :=
  ea_cl (f_X12_songs x418 m419) fun r421 m420 =>
  ea_cl (f_X12_thrown m420) fun r423 m422 =>
  if r423 = x417 then
  if x417 = 0 then
  if (lg_cmp ((m422 287 0).toInt64) r421.toInt64) = 0 then
  f_L_law__j2044 G x416 m422
  else
  some (.inr (.inl (0, m422)))
  else
  f_L_law__j2044 G x416 m422
  else
  some (.inr (.inl (0, m422)))
def f_L_law__j1990 (G : ea_G) (x410 : Int32) (x411 : Int32) (m412 : ea_M) : Option ((Int32 × ea_M) ⊕ ((Int32 × ea_M) ⊕ (ea_M))) :=
  ea_cl (f_L_songs x411 m412) fun r414 m413 =>
  ea_g (x410 + 1) (ea_L G) (ea_bd (ea_xs G (Int32.toNatClampNeg (x410 + 1))) fun x415 =>
  if x415 = 0 then
  f_L_law__j2011 G x410 r414 0 m413
  else
  f_L_law__j2011 G x410 r414 1 m413)
def f_L_law__j1975 (G : ea_G) (x407 : Int32) (m408 : ea_M) : Option ((Int32 × ea_M) ⊕ ((Int32 × ea_M) ⊕ (ea_M))) :=
  ea_g (x407 + 1) (ea_L G) (ea_bd (ea_xs G (Int32.toNatClampNeg (x407 + 1))) fun x409 =>
  if x409 = 0 then
  f_L_law__j1990 G x407 0 m408
  else
  f_L_law__j1990 G x407 1 m408)
def f_L_law__j2088 (G : ea_G) (x434 : Int32) (m435 : ea_M) : Option ((Int32 × ea_M) ⊕ ((Int32 × ea_M) ⊕ (ea_M))) :=
  f_L_law__j2845 G x434 m435
def f_L_law__j2047 (G : ea_G) (x426 : Int32) (m427 : ea_M) : Option ((Int32 × ea_M) ⊕ ((Int32 × ea_M) ⊕ (ea_M))) :=
  ea_cl (f_L_ask m427) fun r429 m428 =>
  ea_cl (f_X12_ask m428) fun r431 m430 =>
  ea_cl (f_X12_thrown m430) fun r433 m432 =>
  if r433 = r429 then
  if r429 = 0 then
  if (lg_cmp ((m432 287 0).toInt64) r431.toInt64) = 0 then
  f_L_law__j2088 G x426 m432
  else
  some (.inr (.inl (0, m432)))
  else
  f_L_law__j2088 G x426 m432
  else
  some (.inr (.inl (0, m432)))
def f_L_law__j2156 (G : ea_G) (x448 : Int32) (m449 : ea_M) : Option ((Int32 × ea_M) ⊕ ((Int32 × ea_M) ⊕ (ea_M))) :=
  f_L_law__j2845 G x448 m449
def f_L_law__j2091 (G : ea_G) (x436 : Int32) (m437 : ea_M) : Option ((Int32 × ea_M) ⊕ ((Int32 × ea_M) ⊕ (ea_M))) :=
  ea_g (x436 + 1) (ea_L G) (ea_bd (ea_xs G (Int32.toNatClampNeg (x436 + 1))) fun x438 =>
  ea_g (x436 + 2) (ea_L G) (ea_bd (ea_xs G (Int32.toNatClampNeg (x436 + 2))) fun x439 =>
  ea_cl (f_L_tell x438 x439 m437) fun r441 m440 =>
  ea_g (x436 + 1) (ea_L G) (ea_bd (ea_xs G (Int32.toNatClampNeg (x436 + 1))) fun x442 =>
  ea_g (x436 + 2) (ea_L G) (ea_bd (ea_xs G (Int32.toNatClampNeg (x436 + 2))) fun x443 =>
  ea_cl (f_X12_tell x442 x443 m440) fun r445 m444 =>
  ea_cl (f_X12_thrown m444) fun r447 m446 =>
  if r447 = r441 then
  if r441 = 0 then
  if (lg_cmp ((m446 287 0).toInt64) r445.toInt64) = 0 then
  f_L_law__j2156 G x436 m446
  else
  some (.inr (.inl (0, m446)))
  else
  f_L_law__j2156 G x436 m446
  else
  some (.inr (.inl (0, m446)))))))
def f_L_law__j2159 (G : ea_G) (x450 : Int32) (m451 : ea_M) : Option ((Int32 × ea_M) ⊕ ((Int32 × ea_M) ⊕ (ea_M))) :=
  ea_cl (f_X11_alike m451) fun r453 m452 =>
  ea_cl (f_X12_alike m452) fun r455 m454 =>
  if r453 = r455 then
  f_L_law__j2845 G x450 m454
  else
  some (.inr (.inl (0, m454)))
def f_L_law__j2249 (G : ea_G) (x470 : Int32) (m471 : ea_M) : Option ((Int32 × ea_M) ⊕ ((Int32 × ea_M) ⊕ (ea_M))) :=
  f_L_law__j2845 G x470 m471
def f_L_law__j2172 (G : ea_G) (x456 : Int32) (m457 : ea_M) : Option ((Int32 × ea_M) ⊕ ((Int32 × ea_M) ⊕ (ea_M))) :=
  ea_g (x456 + 1) (ea_L G) (ea_bd (ea_xs G (Int32.toNatClampNeg (x456 + 1))) fun x458 =>
  ea_g (x456 + 2) (ea_L G) (ea_bd (ea_xs G (Int32.toNatClampNeg (x456 + 2))) fun x459 =>
  ea_g (x456 + 3) (ea_L G) (ea_bd (ea_xs G (Int32.toNatClampNeg (x456 + 3))) fun x460 =>
  ea_cl (f_L_lasts x458 x459 x460 m457) fun r462 m461 =>
  ea_g (x456 + 1) (ea_L G) (ea_bd (ea_xs G (Int32.toNatClampNeg (x456 + 1))) fun x463 =>
  ea_g (x456 + 2) (ea_L G) (ea_bd (ea_xs G (Int32.toNatClampNeg (x456 + 2))) fun x464 =>
  ea_g (x456 + 3) (ea_L G) (ea_bd (ea_xs G (Int32.toNatClampNeg (x456 + 3))) fun x465 =>
  ea_cl (f_X12_lasts x463 x464 x465 m461) fun r467 m466 =>
  ea_cl (f_X12_thrown m466) fun r469 m468 =>
  if r469 = r462 then
  if r462 = 0 then
  if (lg_cmp ((m468 287 0).toInt64) r467.toInt64) = 0 then
  f_L_law__j2249 G x456 m468
  else
  some (.inr (.inl (0, m468)))
  else
  f_L_law__j2249 G x456 m468
  else
  some (.inr (.inl (0, m468)))))))))
def f_L_law__j2252 (G : ea_G) (x472 : Int32) (m473 : ea_M) : Option ((Int32 × ea_M) ⊕ ((Int32 × ea_M) ⊕ (ea_M))) :=
  ea_cl (f_X11_rich m473) fun r475 m474 =>
  ea_cl (f_X12_rich m474) fun r477 m476 =>
  if r475 = r477 then
  f_L_law__j2845 G x472 m476
  else
  some (.inr (.inl (0, m476)))
def f_L_law__j2346 (G : ea_G) (x499 : Int32) (m500 : ea_M) : Option ((Int32 × ea_M) ⊕ ((Int32 × ea_M) ⊕ (ea_M))) :=
  f_L_law__j2845 G x499 m500
def f_L_law__j2313 (G : ea_G) (x490 : Int32) (x491 : Int32) (x492 : Int32) (x493 : Int32) (m494 : ea_M) : Option ((Int32 × ea_M) ⊕ ((Int32 × ea_M) ⊕ (ea_M))) :=
  ea_cl (f_X12_won x492 x493 m494) fun r496 m495 =>
  ea_cl (f_X12_thrown m495) fun r498 m497 =>
  if r498 = x491 then
  if x491 = 0 then
  if (lg_cmp ((m497 287 0).toInt64) r496.toInt64) = 0 then
  f_L_law__j2346 G x490 m497
  else
  some (.inr (.inl (0, m497)))
  else
  f_L_law__j2346 G x490 m497
  else
  some (.inr (.inl (0, m497)))
def f_L_law__j2286 (G : ea_G) (x482 : Int32) (x483 : Int32) (x484 : Int32) (m485 : ea_M) : Option ((Int32 × ea_M) ⊕ ((Int32 × ea_M) ⊕ (ea_M))) :=
  ea_cl (f_L_won x483 x484 m485) fun r487 m486 =>
  ea_g (x482 + 1) (ea_L G) (ea_bd (ea_xs G (Int32.toNatClampNeg (x482 + 1))) fun x488 =>
  ea_g (x482 + 2) (ea_L G) (ea_bd (ea_xs G (Int32.toNatClampNeg (x482 + 2))) fun x489 =>
  if x489 = 0 then
  f_L_law__j2313 G x482 r487 x488 0 m486
  else
  f_L_law__j2313 G x482 r487 x488 1 m486))
def f_L_law__j2265 (G : ea_G) (x478 : Int32) (m479 : ea_M) : Option ((Int32 × ea_M) ⊕ ((Int32 × ea_M) ⊕ (ea_M))) :=
  ea_g (x478 + 1) (ea_L G) (ea_bd (ea_xs G (Int32.toNatClampNeg (x478 + 1))) fun x480 =>
  ea_g (x478 + 2) (ea_L G) (ea_bd (ea_xs G (Int32.toNatClampNeg (x478 + 2))) fun x481 =>
  if x481 = 0 then
  f_L_law__j2286 G x478 x480 0 m479
  else
  f_L_law__j2286 G x478 x480 1 m479))
def f_L_law__j2349 (G : ea_G) (x501 : Int32) (m502 : ea_M) : Option ((Int32 × ea_M) ⊕ ((Int32 × ea_M) ⊕ (ea_M))) :=
  ea_cl (f_X11_cover m502) fun r504 m503 =>
  ea_cl (f_X12_cover m503) fun r506 m505 =>
  if r504 = r506 then
  f_L_law__j2845 G x501 m505
  else
  some (.inr (.inl (0, m505)))
def f_L_law__j2415 (G : ea_G) (x517 : Int32) (m518 : ea_M) : Option ((Int32 × ea_M) ⊕ ((Int32 × ea_M) ⊕ (ea_M))) :=
  f_L_law__j2845 G x517 m518
def f_L_law__j2362 (G : ea_G) (x507 : Int32) (m508 : ea_M) : Option ((Int32 × ea_M) ⊕ ((Int32 × ea_M) ⊕ (ea_M))) :=
  ea_g (x507 + 1) (ea_L G) (ea_bd (ea_xs G (Int32.toNatClampNeg (x507 + 1))) fun x509 =>
  ea_cl (f_L_widest x509 m508) fun r511 m510 =>
  ea_g (x507 + 1) (ea_L G) (ea_bd (ea_xs G (Int32.toNatClampNeg (x507 + 1))) fun x512 =>
  ea_cl (f_X12_widest x512 m510) fun r514 m513 =>
  ea_cl (f_X12_thrown m513) fun r516 m515 =>
  if r516 = r511 then
  if r511 = 0 then
  if (lg_cmp ((m515 287 0).toInt64) r514.toInt64) = 0 then
  f_L_law__j2415 G x507 m515
  else
  some (.inr (.inl (0, m515)))
  else
  f_L_law__j2415 G x507 m515
  else
  some (.inr (.inl (0, m515)))))
def f_L_law__j2495 (G : ea_G) (x533 : Int32) (m534 : ea_M) : Option ((Int32 × ea_M) ⊕ ((Int32 × ea_M) ⊕ (ea_M))) :=
  f_L_law__j2845 G x533 m534
def f_L_law__j2418 (G : ea_G) (x519 : Int32) (m520 : ea_M) : Option ((Int32 × ea_M) ⊕ ((Int32 × ea_M) ⊕ (ea_M))) :=
  ea_g (x519 + 1) (ea_L G) (ea_bd (ea_xs G (Int32.toNatClampNeg (x519 + 1))) fun x521 =>
  ea_g (x519 + 2) (ea_L G) (ea_bd (ea_xs G (Int32.toNatClampNeg (x519 + 2))) fun x522 =>
  ea_g (x519 + 3) (ea_L G) (ea_bd (ea_xs G (Int32.toNatClampNeg (x519 + 3))) fun x523 =>
  ea_cl (f_L_trial x521 x522 x523 m520) fun r525 m524 =>
  ea_g (x519 + 1) (ea_L G) (ea_bd (ea_xs G (Int32.toNatClampNeg (x519 + 1))) fun x526 =>
  ea_g (x519 + 2) (ea_L G) (ea_bd (ea_xs G (Int32.toNatClampNeg (x519 + 2))) fun x527 =>
  ea_g (x519 + 3) (ea_L G) (ea_bd (ea_xs G (Int32.toNatClampNeg (x519 + 3))) fun x528 =>
  ea_cl (f_X12_trial x526 x527 x528 m524) fun r530 m529 =>
  ea_cl (f_X12_thrown m529) fun r532 m531 =>
  if r532 = r525 then
  if r525 = 0 then
  if (lg_cmp ((m531 287 0).toInt64) r530.toInt64) = 0 then
  f_L_law__j2495 G x519 m531
  else
  some (.inr (.inl (0, m531)))
  else
  f_L_law__j2495 G x519 m531
  else
  some (.inr (.inl (0, m531)))))))))
def f_L_law__j2603 (G : ea_G) (x564 : Int32) (m565 : ea_M) : Option ((Int32 × ea_M) ⊕ ((Int32 × ea_M) ⊕ (ea_M))) :=
  f_L_law__j2845 G x564 m565
def f_L_law__j2570 (G : ea_G) (x553 : Int32) (x554 : Int32) (x555 : Int32) (x556 : Int32) (x557 : Int32) (x558 : Int32) (m559 : ea_M) : Option ((Int32 × ea_M) ⊕ ((Int32 × ea_M) ⊕ (ea_M))) :=
  ea_cl (f_X12_span x555 x556 x557 x558 m559) fun r561 m560 =>
  ea_cl (f_X12_thrown m560) fun r563 m562 =>
  if r563 = x554 then
  if x554 = 0 then
  if (lg_cmp ((m562 287 0).toInt64) r561.toInt64) = 0 then
  f_L_law__j2603 G x553 m562
  else
  some (.inr (.inl (0, m562)))
  else
  f_L_law__j2603 G x553 m562
  else
  some (.inr (.inl (0, m562)))
def f_L_law__j2531 (G : ea_G) (x541 : Int32) (x542 : Int32) (x543 : Int32) (x544 : Int32) (x545 : Int32) (m546 : ea_M) : Option ((Int32 × ea_M) ⊕ ((Int32 × ea_M) ⊕ (ea_M))) :=
  ea_cl (f_L_span x542 x543 x544 x545 m546) fun r548 m547 =>
  ea_g (x541 + 1) (ea_L G) (ea_bd (ea_xs G (Int32.toNatClampNeg (x541 + 1))) fun x549 =>
  ea_g (x541 + 2) (ea_L G) (ea_bd (ea_xs G (Int32.toNatClampNeg (x541 + 2))) fun x550 =>
  ea_g (x541 + 3) (ea_L G) (ea_bd (ea_xs G (Int32.toNatClampNeg (x541 + 3))) fun x551 =>
  ea_g (x541 + 4) (ea_L G) (ea_bd (ea_xs G (Int32.toNatClampNeg (x541 + 4))) fun x552 =>
  if x552 = 0 then
  f_L_law__j2570 G x541 r548 x549 x550 x551 0 m547
  else
  f_L_law__j2570 G x541 r548 x549 x550 x551 1 m547))))
def f_L_law__j2498 (G : ea_G) (x535 : Int32) (m536 : ea_M) : Option ((Int32 × ea_M) ⊕ ((Int32 × ea_M) ⊕ (ea_M))) :=
  ea_g (x535 + 1) (ea_L G) (ea_bd (ea_xs G (Int32.toNatClampNeg (x535 + 1))) fun x537 =>
  ea_g (x535 + 2) (ea_L G) (ea_bd (ea_xs G (Int32.toNatClampNeg (x535 + 2))) fun x538 =>
  ea_g (x535 + 3) (ea_L G) (ea_bd (ea_xs G (Int32.toNatClampNeg (x535 + 3))) fun x539 =>
  ea_g (x535 + 4) (ea_L G) (ea_bd (ea_xs G (Int32.toNatClampNeg (x535 + 4))) fun x540 =>
  if x540 = 0 then
  f_L_law__j2531 G x535 x537 x538 x539 0 m536
  else
  f_L_law__j2531 G x535 x537 x538 x539 1 m536))))
def f_L_law__j2687 (G : ea_G) (x587 : Int32) (m588 : ea_M) : Option ((Int32 × ea_M) ⊕ ((Int32 × ea_M) ⊕ (ea_M))) :=
  f_L_law__j2845 G x587 m588
def f_L_law__j2654 (G : ea_G) (x578 : Int32) (x579 : Int32) (x580 : Int32) (x581 : Int32) (m582 : ea_M) : Option ((Int32 × ea_M) ⊕ ((Int32 × ea_M) ⊕ (ea_M))) :=
  ea_cl (f_X12_led x580 x581 m582) fun r584 m583 =>
  ea_cl (f_X12_thrown m583) fun r586 m585 =>
  if r586 = x579 then
  if x579 = 0 then
  if (lg_cmp ((m585 287 0).toInt64) r584.toInt64) = 0 then
  f_L_law__j2687 G x578 m585
  else
  some (.inr (.inl (0, m585)))
  else
  f_L_law__j2687 G x578 m585
  else
  some (.inr (.inl (0, m585)))
def f_L_law__j2627 (G : ea_G) (x570 : Int32) (x571 : Int32) (x572 : Int32) (m573 : ea_M) : Option ((Int32 × ea_M) ⊕ ((Int32 × ea_M) ⊕ (ea_M))) :=
  ea_cl (f_L_led x571 x572 m573) fun r575 m574 =>
  ea_g (x570 + 1) (ea_L G) (ea_bd (ea_xs G (Int32.toNatClampNeg (x570 + 1))) fun x576 =>
  ea_g (x570 + 2) (ea_L G) (ea_bd (ea_xs G (Int32.toNatClampNeg (x570 + 2))) fun x577 =>
  if x577 = 0 then
  f_L_law__j2654 G x570 r575 x576 0 m574
  else
  f_L_law__j2654 G x570 r575 x576 1 m574))
def f_L_law__j2606 (G : ea_G) (x566 : Int32) (m567 : ea_M) : Option ((Int32 × ea_M) ⊕ ((Int32 × ea_M) ⊕ (ea_M))) :=
  ea_g (x566 + 1) (ea_L G) (ea_bd (ea_xs G (Int32.toNatClampNeg (x566 + 1))) fun x568 =>
  ea_g (x566 + 2) (ea_L G) (ea_bd (ea_xs G (Int32.toNatClampNeg (x566 + 2))) fun x569 =>
  if x569 = 0 then
  f_L_law__j2627 G x566 x568 0 m567
  else
  f_L_law__j2627 G x566 x568 1 m567))
def f_L_law__j2755 (G : ea_G) (x601 : Int32) (m602 : ea_M) : Option ((Int32 × ea_M) ⊕ ((Int32 × ea_M) ⊕ (ea_M))) :=
  f_L_law__j2845 G x601 m602
def f_L_law__j2690 (G : ea_G) (x589 : Int32) (m590 : ea_M) : Option ((Int32 × ea_M) ⊕ ((Int32 × ea_M) ⊕ (ea_M))) :=
  ea_g (x589 + 1) (ea_L G) (ea_bd (ea_xs G (Int32.toNatClampNeg (x589 + 1))) fun x591 =>
  ea_g (x589 + 2) (ea_L G) (ea_bd (ea_xs G (Int32.toNatClampNeg (x589 + 2))) fun x592 =>
  ea_cl (f_L_log x591 x592 m590) fun r594 m593 =>
  ea_g (x589 + 1) (ea_L G) (ea_bd (ea_xs G (Int32.toNatClampNeg (x589 + 1))) fun x595 =>
  ea_g (x589 + 2) (ea_L G) (ea_bd (ea_xs G (Int32.toNatClampNeg (x589 + 2))) fun x596 =>
  ea_cl (f_X12_log x595 x596 m593) fun r598 m597 =>
  ea_cl (f_X12_thrown m597) fun r600 m599 =>
  if r600 = r594 then
  if r594 = 0 then
  if (lg_cmp ((m599 287 0).toInt64) r598.toInt64) = 0 then
  f_L_law__j2755 G x589 m599
  else
  some (.inr (.inl (0, m599)))
  else
  f_L_law__j2755 G x589 m599
  else
  some (.inr (.inl (0, m599)))))))
def f_L_law__j2758 (G : ea_G) (x603 : Int32) (m604 : ea_M) : Option ((Int32 × ea_M) ⊕ ((Int32 × ea_M) ⊕ (ea_M))) :=
  ea_g (x603 + 1) (ea_L G) (ea_bd (ea_xs G (Int32.toNatClampNeg (x603 + 1))) fun x605 =>
  ea_cl (f_X11_seed x605 m604) fun r607 m606 =>
  ea_g (x603 + 1) (ea_L G) (ea_bd (ea_xs G (Int32.toNatClampNeg (x603 + 1))) fun x608 =>
  ea_cl (f_X12_seed x608 m606) fun r610 m609 =>
  if r607 = r610 then
  f_L_law__j2845 G x603 m609
  else
  some (.inr (.inl (0, m609)))))
def f_L_law__j2783 (G : ea_G) (x611 : Int32) (m612 : ea_M) : Option ((Int32 × ea_M) ⊕ ((Int32 × ea_M) ⊕ (ea_M))) :=
  ea_cl (f_X11_undo m612) fun r614 m613 =>
  ea_cl (f_X12_undo m613) fun r616 m615 =>
  if r614 = r616 then
  f_L_law__j2845 G x611 m615
  else
  some (.inr (.inl (0, m615)))
def f_L_law__j2796 (G : ea_G) (x617 : Int32) (m618 : ea_M) : Option ((Int32 × ea_M) ⊕ ((Int32 × ea_M) ⊕ (ea_M))) :=
  ea_cl (f_X11_image m618) fun r620 m619 =>
  ea_cl (f_X12_image m619) fun r622 m621 =>
  f_L_law__j2845 G x617 m621
def f_L_law__j2807 (G : ea_G) (x623 : Int32) (m624 : ea_M) : Option ((Int32 × ea_M) ⊕ ((Int32 × ea_M) ⊕ (ea_M))) :=
  ea_cl (f_X11_back m624) fun r626 m625 =>
  ea_cl (f_X12_back m625) fun r628 m627 =>
  if r626 = r628 then
  f_L_law__j2845 G x623 m627
  else
  some (.inr (.inl (0, m627)))
def f_L_law__j2820 (G : ea_G) (x629 : Int32) (m630 : ea_M) : Option ((Int32 × ea_M) ⊕ ((Int32 × ea_M) ⊕ (ea_M))) :=
  ea_g (x629 + 1) (ea_L G) (ea_bd (ea_xs G (Int32.toNatClampNeg (x629 + 1))) fun x631 =>
  ea_cl (f_X11_count x631 m630) fun r633 m632 =>
  ea_g (x629 + 1) (ea_L G) (ea_bd (ea_xs G (Int32.toNatClampNeg (x629 + 1))) fun x634 =>
  ea_cl (f_X12_count x634 m632) fun r636 m635 =>
  if r633 = r636 then
  f_L_law__j2845 G x629 m635
  else
  some (.inr (.inl (0, m635)))))
def f_L_law__s23 (G : ea_G) (s23 : Int32 × ea_M) : Option ((Int32 × ea_M) ⊕ ((Int32 × ea_M) ⊕ (ea_M))) :=
  if Int32.toNatClampNeg s23.1 ≤ 4000 then
  if ((nI (ea_L G)) - 6) < s23.1 then
  some (.inr (.inr s23.2))
  else
  ea_g s23.1 (ea_L G) (ea_bd (ea_xs G (Int32.toNatClampNeg s23.1)) fun x1 =>
  if (x1 &&& 63) = 0 then
  f_L_law__j232 G s23.1 s23.2
  else
  if (x1 &&& 63) = 1 then
  f_L_law__j305 G s23.1 s23.2
  else
  if (x1 &&& 63) = 2 then
  f_L_law__j330 G s23.1 s23.2
  else
  if (x1 &&& 63) = 3 then
  f_L_law__j374 G s23.1 s23.2
  else
  if (x1 &&& 63) = 4 then
  f_L_law__j418 G s23.1 s23.2
  else
  if (x1 &&& 63) = 5 then
  f_L_law__j431 G s23.1 s23.2
  else
  if (x1 &&& 63) = 6 then
  f_L_law__j499 G s23.1 s23.2
  else
  if (x1 &&& 63) = 7 then
  f_L_law__j567 G s23.1 s23.2
  else
  if (x1 &&& 63) = 8 then
  f_L_law__j635 G s23.1 s23.2
  else
  if (x1 &&& 63) = 9 then
  f_L_law__j691 G s23.1 s23.2
  else
  if (x1 &&& 63) = 10 then
  f_L_law__j811 G s23.1 s23.2
  else
  if (x1 &&& 63) = 11 then
  f_L_law__j891 G s23.1 s23.2
  else
  if (x1 &&& 63) = 12 then
  f_L_law__j947 G s23.1 s23.2
  else
  if (x1 &&& 63) = 13 then
  f_L_law__j1015 G s23.1 s23.2
  else
  if (x1 &&& 63) = 14 then
  f_L_law__j1107 G s23.1 s23.2
  else
  if (x1 &&& 63) = 15 then
  f_L_law__j1163 G s23.1 s23.2
  else
  if (x1 &&& 63) = 16 then
  f_L_law__j1219 G s23.1 s23.2
  else
  if (x1 &&& 63) = 17 then
  f_L_law__j1287 G s23.1 s23.2
  else
  if (x1 &&& 63) = 18 then
  f_L_law__j1355 G s23.1 s23.2
  else
  if (x1 &&& 63) = 19 then
  f_L_law__j1423 G s23.1 s23.2
  else
  if (x1 &&& 63) = 20 then
  f_L_law__j1507 G s23.1 s23.2
  else
  if (x1 &&& 63) = 21 then
  f_L_law__j1587 G s23.1 s23.2
  else
  if (x1 &&& 63) = 22 then
  f_L_law__j1655 G s23.1 s23.2
  else
  if (x1 &&& 63) = 23 then
  f_L_law__j1723 G s23.1 s23.2
  else
  if (x1 &&& 63) = 24 then
  f_L_law__j1835 G s23.1 s23.2
  else
  if (x1 &&& 63) = 25 then
  f_L_law__j1919 G s23.1 s23.2
  else
  if (x1 &&& 63) = 26 then
  f_L_law__j1975 G s23.1 s23.2
  else
  if (x1 &&& 63) = 27 then
  f_L_law__j2047 G s23.1 s23.2
  else
  if (x1 &&& 63) = 28 then
  f_L_law__j2091 G s23.1 s23.2
  else
  if (x1 &&& 63) = 29 then
  f_L_law__j2159 G s23.1 s23.2
  else
  if (x1 &&& 63) = 30 then
  f_L_law__j2172 G s23.1 s23.2
  else
  if (x1 &&& 63) = 31 then
  f_L_law__j2252 G s23.1 s23.2
  else
  if (x1 &&& 63) = 32 then
  f_L_law__j2265 G s23.1 s23.2
  else
  if (x1 &&& 63) = 33 then
  f_L_law__j2349 G s23.1 s23.2
  else
  if (x1 &&& 63) = 34 then
  f_L_law__j2362 G s23.1 s23.2
  else
  if (x1 &&& 63) = 35 then
  f_L_law__j2418 G s23.1 s23.2
  else
  if (x1 &&& 63) = 36 then
  f_L_law__j2498 G s23.1 s23.2
  else
  if (x1 &&& 63) = 37 then
  f_L_law__j2606 G s23.1 s23.2
  else
  if (x1 &&& 63) = 38 then
  f_L_law__j2690 G s23.1 s23.2
  else
  if (x1 &&& 63) = 39 then
  f_L_law__j2758 G s23.1 s23.2
  else
  if (x1 &&& 63) = 40 then
  f_L_law__j2783 G s23.1 s23.2
  else
  if (x1 &&& 63) = 41 then
  f_L_law__j2796 G s23.1 s23.2
  else
  if (x1 &&& 63) = 42 then
  f_L_law__j2807 G s23.1 s23.2
  else
  if (x1 &&& 63) = 43 then
  f_L_law__j2820 G s23.1 s23.2
  else
  f_L_law__j2845 G s23.1 s23.2)
  else none
/-- the whole law, from its loop on -/
def f_L_law_ (G : ea_G) (m : ea_M) : Option (Int32 × ea_M) :=
  ea_sl (ea_loop (f_L_law__s23 G) ea_fuel (0, m)) (fun t => some t) (fun x => some (1, x))
set_option maxHeartbeats 300000 in
theorem jn_L_law__2845 (G : ea_G) {res : ea_O}  (x18 : Int32) (m19 : ea_M) (hx18 : Int32.toNatClampNeg x18 ≤ 4000) {Φ : ((Int32 × ea_M) ⊕ ((Int32 × ea_M) ⊕ (ea_M))) → Prop} (hC : ∀ s23 : Int32 × ea_M, Φ (.inl s23) → ea_Ev G F_L_law_ res 23 [some (.ref 2000), some (.ref 0), some (.ref 272), some (.ref 287), some (.int s23.1), none, none] [] s23.2 (400 + Int32.toNatClampNeg s23.1) (30000 + 6 * Int32.toNatClampNeg s23.1)) (hR : ∀ t : Int32 × ea_M, Φ (.inr (.inl t)) → res = (0, t)) (hX : ∀ x23s : ea_M, Φ (.inr (.inr x23s)) → ea_Ev G F_L_law_ res 2851 [none, none, none, none, none, none, none] [] x23s 5000 60000) : ea_E G F_L_law_ res 2845 [some (.ref 2000), some (.ref 0), some (.ref 272), some (.ref 287), some (.int x18), none, none] [] m19 (400 + Int32.toNatClampNeg x18 + 6) (30000 + 6 * Int32.toNatClampNeg x18 + 36) (f_L_law__j2845 G x18 m19) Φ := by
  unfold f_L_law__j2845
  refine ev_iinc (ls' := [some (.ref 2000), some (.ref 0), some (.ref 272), some (.ref 287), some (.int (x18 + 6)), none, none]) (ea_at dt_L_law__28 47 rfl) rfl (congrArg (fun z => _ + z) ic_6) (ea_lt rfl) rfl ?_
  refine ev_goto (tgt := 23) (ea_at dt_L_law__28 48 rfl) rfl ?_
  refine ev_ite (fun hi => ?_) (fun _ => ev_none)
  exact ev_leaf (fun h => ea_drop (l' := [some (.ref 2000), some (.ref 0), some (.ref 272), some (.ref 287), some (.int (x18 + 6)), none, none]) ⟨Or.inr rfl, Or.inr rfl, Or.inr rfl, Or.inr rfl, Or.inr rfl, Or.inl rfl, Or.inl rfl, trivial⟩ (ea_widen (show 400 + Int32.toNatClampNeg x18 + 6 ≤ 400 + Int32.toNatClampNeg (x18 + 6) from by omega) (show 30000 + 6 * Int32.toNatClampNeg x18 + 36 ≤ 30000 + 6 * Int32.toNatClampNeg (x18 + 6) from by omega) (hC (x18 + 6, m19) h)))
set_option maxHeartbeats 300000 in
theorem jn_L_law__232 (G : ea_G) {res : ea_O}  (x2 : Int32) (m3 : ea_M) (hx2 : Int32.toNatClampNeg x2 ≤ 4000) {Φ : ((Int32 × ea_M) ⊕ ((Int32 × ea_M) ⊕ (ea_M))) → Prop} (hC : ∀ s23 : Int32 × ea_M, Φ (.inl s23) → ea_Ev G F_L_law_ res 23 [some (.ref 2000), some (.ref 0), some (.ref 272), some (.ref 287), some (.int s23.1), none, none] [] s23.2 (400 + Int32.toNatClampNeg s23.1) (30000 + 6 * Int32.toNatClampNeg s23.1)) (hR : ∀ t : Int32 × ea_M, Φ (.inr (.inl t)) → res = (0, t)) (hX : ∀ x23s : ea_M, Φ (.inr (.inr x23s)) → ea_Ev G F_L_law_ res 2851 [none, none, none, none, none, none, none] [] x23s 5000 60000) : ea_E G F_L_law_ res 232 [some (.ref 2000), some (.ref 0), some (.ref 272), some (.ref 287), some (.int x2), none, none] [] m3 (400 + Int32.toNatClampNeg x2) (30000 + 6 * Int32.toNatClampNeg x2) (f_L_law__j232 G x2 m3) Φ := by
  unfold f_L_law__j232
  refine ev_aload_n (ea_at dt_L_law__0 25 rfl) rfl ?_
  refine ev_aload_n (ea_at dt_L_law__0 26 rfl) rfl ?_
  refine ev_iload (ea_at dt_L_law__0 27 rfl) rfl ?_
  refine ev_iconst (ea_at dt_L_law__0 28 rfl) ic_1 ?_
  refine ev_iadd (ea_at dt_L_law__0 29 rfl) ?_
  refine ev_script (ea_at dt_L_law__0 30 rfl) ?_
  refine ev_i (fun x4 => ?_)
  refine ev_aload_n (ea_at dt_L_law__0 31 rfl) rfl ?_
  refine ev_iload (ea_at dt_L_law__0 32 rfl) rfl ?_
  refine ev_iconst (ea_at dt_L_law__0 33 rfl) ic_2 ?_
  refine ev_iadd (ea_at dt_L_law__0 34 rfl) ?_
  refine ev_script (ea_at dt_L_law__0 35 rfl) ?_
  refine ev_i (fun x5 => ?_)
  refine ev_aload_n (ea_at dt_L_law__0 36 rfl) rfl ?_
  refine ev_iload (ea_at dt_L_law__0 37 rfl) rfl ?_
  refine ev_iconst (ea_at dt_L_law__0 38 rfl) ic_3 ?_
  refine ev_iadd (ea_at dt_L_law__0 39 rfl) ?_
  refine ev_script (ea_at dt_L_law__0 40 rfl) ?_
  refine ev_i (fun x6 => ?_)
  refine ev_aload_n (ea_at dt_L_law__0 41 rfl) rfl ?_
  refine ev_iload (ea_at dt_L_law__0 42 rfl) rfl ?_
  refine ev_iconst (ea_at dt_L_law__0 43 rfl) ic_4 ?_
  refine ev_iadd (ea_at dt_L_law__0 44 rfl) ?_
  refine ev_script (ea_at dt_L_law__0 45 rfl) ?_
  refine ev_i (fun x7 => ?_)
  refine ev_aload_n (ea_at dt_L_law__0 46 rfl) rfl ?_
  refine ev_iload (ea_at dt_L_law__0 47 rfl) rfl ?_
  refine ev_iconst (ea_at dt_L_law__0 48 rfl) ic_5 ?_
  refine ev_iadd (ea_at dt_L_law__0 49 rfl) ?_
  refine ev_script (ea_at dt_L_law__0 50 rfl) ?_
  refine ev_i (fun x8 => ?_)
  refine ev_clI (F1 := F_X11_feed) (fun rY mY hY => ea_runV (As := [.int x4, .int x5, .int x6, .int x7, .int x8]) (ea_at dt_L_law__0 51 rfl) ml_L_132 mv_X11_feed (ok_X11_feed G x4 x5 x6 x7 x8 m3 rY mY hY) sh_0 rfl rfl rfl (Nat.le_of_ble_eq_true rfl) (ea_okK rfl (show 400 + Int32.toNatClampNeg x2 + 0 ≤ 601024 from by omega) (show 30000 + 6 * Int32.toNatClampNeg x2 + 0 ≤ 7293034 from by omega))) rfl (fun r10 m9 => ?_)
  refine ev_aload_n (ea_at dt_L_law__0 52 rfl) rfl ?_
  refine ev_aload_n (ea_at dt_L_law__0 53 rfl) rfl ?_
  refine ev_iload (ea_at dt_L_law__0 54 rfl) rfl ?_
  refine ev_iconst (ea_at dt_L_law__0 55 rfl) ic_1 ?_
  refine ev_iadd (ea_at dt_L_law__0 56 rfl) ?_
  refine ev_script (ea_at dt_L_law__0 57 rfl) ?_
  refine ev_i (fun x11 => ?_)
  refine ev_aload_n (ea_at dt_L_law__0 58 rfl) rfl ?_
  refine ev_iload (ea_at dt_L_law__0 59 rfl) rfl ?_
  refine ev_iconst (ea_at dt_L_law__1 0 rfl) ic_2 ?_
  refine ev_iadd (ea_at dt_L_law__1 1 rfl) ?_
  refine ev_script (ea_at dt_L_law__1 2 rfl) ?_
  refine ev_i (fun x12 => ?_)
  refine ev_aload_n (ea_at dt_L_law__1 3 rfl) rfl ?_
  refine ev_iload (ea_at dt_L_law__1 4 rfl) rfl ?_
  refine ev_iconst (ea_at dt_L_law__1 5 rfl) ic_3 ?_
  refine ev_iadd (ea_at dt_L_law__1 6 rfl) ?_
  refine ev_script (ea_at dt_L_law__1 7 rfl) ?_
  refine ev_i (fun x13 => ?_)
  refine ev_aload_n (ea_at dt_L_law__1 8 rfl) rfl ?_
  refine ev_iload (ea_at dt_L_law__1 9 rfl) rfl ?_
  refine ev_iconst (ea_at dt_L_law__1 10 rfl) ic_4 ?_
  refine ev_iadd (ea_at dt_L_law__1 11 rfl) ?_
  refine ev_script (ea_at dt_L_law__1 12 rfl) ?_
  refine ev_i (fun x14 => ?_)
  refine ev_aload_n (ea_at dt_L_law__1 13 rfl) rfl ?_
  refine ev_iload (ea_at dt_L_law__1 14 rfl) rfl ?_
  refine ev_iconst (ea_at dt_L_law__1 15 rfl) ic_5 ?_
  refine ev_iadd (ea_at dt_L_law__1 16 rfl) ?_
  refine ev_script (ea_at dt_L_law__1 17 rfl) ?_
  refine ev_i (fun x15 => ?_)
  refine ev_clI (F1 := F_X12_feed) (fun rY mY hY => ea_runV (As := [.int x11, .int x12, .int x13, .int x14, .int x15]) (ea_at dt_L_law__1 18 rfl) ml_L_136 mv_X12_feed (ok_X12_feed G x11 x12 x13 x14 x15 m9 rY mY hY) sh_272 rfl rfl rfl (Nat.le_of_ble_eq_true rfl) (ea_okK rfl (show 400 + Int32.toNatClampNeg x2 + 0 + 0 ≤ 601024 from by omega) (show 30000 + 6 * Int32.toNatClampNeg x2 + 0 + 0 ≤ 7293034 from by omega))) rfl (fun r17 m16 => ?_)
  refine ev_icmp_eq (tgt := 2845) (ea_at dt_L_law__1 19 rfl) rfl (fun _ => ?_) (fun _ => ?_)
  · refine ev_wid (k' := 400 + Int32.toNatClampNeg x2 + 6) (n' := 30000 + 6 * Int32.toNatClampNeg x2 + 36) (show 400 + Int32.toNatClampNeg x2 + 0 + 0 ≤ 400 + Int32.toNatClampNeg x2 + 6 from by omega) (show 30000 + 6 * Int32.toNatClampNeg x2 + 0 + 0 ≤ 30000 + 6 * Int32.toNatClampNeg x2 + 36 from by omega) ?_
    exact ev_drop (l' := [some (.ref 2000), some (.ref 0), some (.ref 272), some (.ref 287), some (.int x2), none, none]) ⟨Or.inr rfl, Or.inr rfl, Or.inr rfl, Or.inr rfl, Or.inr rfl, Or.inl rfl, Or.inl rfl, trivial⟩ (jn_L_law__2845 G x2 m16 hx2 hC hR hX)
  · refine ev_iconst (ea_at dt_L_law__1 20 rfl) ic_0 ?_
    exact ev_zret (by decide) (ea_at dt_L_law__1 21 rfl) rfl ⟨show 400 + Int32.toNatClampNeg x2 + 0 + 0 ≤ 601024 from by omega, show 30000 + 6 * Int32.toNatClampNeg x2 + 0 + 0 ≤ 7293034 from by omega⟩ (fun h => hR _ h)
set_option maxHeartbeats 300000 in
theorem jn_L_law__305 (G : ea_G) {res : ea_O}  (x20 : Int32) (m21 : ea_M) (hx20 : Int32.toNatClampNeg x20 ≤ 4000) {Φ : ((Int32 × ea_M) ⊕ ((Int32 × ea_M) ⊕ (ea_M))) → Prop} (hC : ∀ s23 : Int32 × ea_M, Φ (.inl s23) → ea_Ev G F_L_law_ res 23 [some (.ref 2000), some (.ref 0), some (.ref 272), some (.ref 287), some (.int s23.1), none, none] [] s23.2 (400 + Int32.toNatClampNeg s23.1) (30000 + 6 * Int32.toNatClampNeg s23.1)) (hR : ∀ t : Int32 × ea_M, Φ (.inr (.inl t)) → res = (0, t)) (hX : ∀ x23s : ea_M, Φ (.inr (.inr x23s)) → ea_Ev G F_L_law_ res 2851 [none, none, none, none, none, none, none] [] x23s 5000 60000) : ea_E G F_L_law_ res 305 [some (.ref 2000), some (.ref 0), some (.ref 272), some (.ref 287), some (.int x20), none, none] [] m21 (400 + Int32.toNatClampNeg x20) (30000 + 6 * Int32.toNatClampNeg x20) (f_L_law__j305 G x20 m21) Φ := by
  unfold f_L_law__j305
  refine ev_aload_n (ea_at dt_L_law__1 22 rfl) rfl ?_
  refine ev_aload_n (ea_at dt_L_law__1 23 rfl) rfl ?_
  refine ev_iload (ea_at dt_L_law__1 24 rfl) rfl ?_
  refine ev_iconst (ea_at dt_L_law__1 25 rfl) ic_1 ?_
  refine ev_iadd (ea_at dt_L_law__1 26 rfl) ?_
  refine ev_script (ea_at dt_L_law__1 27 rfl) ?_
  refine ev_i (fun x22 => ?_)
  refine ev_clI (F1 := F_X11_end) (fun rY mY hY => ea_runV (As := [.int x22]) (ea_at dt_L_law__1 28 rfl) ml_L_137 mv_X11_end (ok_X11_end G x22 m21 rY mY hY) sh_0 rfl rfl rfl (Nat.le_of_ble_eq_true rfl) (ea_okK rfl (show 400 + Int32.toNatClampNeg x20 + 0 ≤ 601024 from by omega) (show 30000 + 6 * Int32.toNatClampNeg x20 + 0 ≤ 7293034 from by omega))) rfl (fun r24 m23 => ?_)
  refine ev_aload_n (ea_at dt_L_law__1 29 rfl) rfl ?_
  refine ev_aload_n (ea_at dt_L_law__1 30 rfl) rfl ?_
  refine ev_iload (ea_at dt_L_law__1 31 rfl) rfl ?_
  refine ev_iconst (ea_at dt_L_law__1 32 rfl) ic_1 ?_
  refine ev_iadd (ea_at dt_L_law__1 33 rfl) ?_
  refine ev_script (ea_at dt_L_law__1 34 rfl) ?_
  refine ev_i (fun x25 => ?_)
  refine ev_clI (F1 := F_X12_end) (fun rY mY hY => ea_runV (As := [.int x25]) (ea_at dt_L_law__1 35 rfl) ml_L_141 mv_X12_end (ok_X12_end G x25 m23 rY mY hY) sh_272 rfl rfl rfl (Nat.le_of_ble_eq_true rfl) (ea_okK rfl (show 400 + Int32.toNatClampNeg x20 + 0 + 0 ≤ 601024 from by omega) (show 30000 + 6 * Int32.toNatClampNeg x20 + 0 + 0 ≤ 7293034 from by omega))) rfl (fun r27 m26 => ?_)
  refine ev_icmp_eq (tgt := 2845) (ea_at dt_L_law__1 36 rfl) rfl (fun _ => ?_) (fun _ => ?_)
  · refine ev_wid (k' := 400 + Int32.toNatClampNeg x20 + 6) (n' := 30000 + 6 * Int32.toNatClampNeg x20 + 36) (show 400 + Int32.toNatClampNeg x20 + 0 + 0 ≤ 400 + Int32.toNatClampNeg x20 + 6 from by omega) (show 30000 + 6 * Int32.toNatClampNeg x20 + 0 + 0 ≤ 30000 + 6 * Int32.toNatClampNeg x20 + 36 from by omega) ?_
    exact ev_drop (l' := [some (.ref 2000), some (.ref 0), some (.ref 272), some (.ref 287), some (.int x20), none, none]) ⟨Or.inr rfl, Or.inr rfl, Or.inr rfl, Or.inr rfl, Or.inr rfl, Or.inl rfl, Or.inl rfl, trivial⟩ (jn_L_law__2845 G x20 m26 hx20 hC hR hX)
  · refine ev_iconst (ea_at dt_L_law__1 37 rfl) ic_0 ?_
    exact ev_zret (by decide) (ea_at dt_L_law__1 38 rfl) rfl ⟨show 400 + Int32.toNatClampNeg x20 + 0 + 0 ≤ 601024 from by omega, show 30000 + 6 * Int32.toNatClampNeg x20 + 0 + 0 ≤ 7293034 from by omega⟩ (fun h => hR _ h)
set_option maxHeartbeats 300000 in
theorem jn_L_law__371 (G : ea_G) {res : ea_O}  (x36 : Int32) (m37 : ea_M) (hx36 : Int32.toNatClampNeg x36 ≤ 4000) {Φ : ((Int32 × ea_M) ⊕ ((Int32 × ea_M) ⊕ (ea_M))) → Prop} (hC : ∀ s23 : Int32 × ea_M, Φ (.inl s23) → ea_Ev G F_L_law_ res 23 [some (.ref 2000), some (.ref 0), some (.ref 272), some (.ref 287), some (.int s23.1), none, none] [] s23.2 (400 + Int32.toNatClampNeg s23.1) (30000 + 6 * Int32.toNatClampNeg s23.1)) (hR : ∀ t : Int32 × ea_M, Φ (.inr (.inl t)) → res = (0, t)) (hX : ∀ x23s : ea_M, Φ (.inr (.inr x23s)) → ea_Ev G F_L_law_ res 2851 [none, none, none, none, none, none, none] [] x23s 5000 60000) : ea_E G F_L_law_ res 371 [some (.ref 2000), some (.ref 0), some (.ref 272), some (.ref 287), some (.int x36), none, none] [] m37 (400 + Int32.toNatClampNeg x36 + 6) (30000 + 6 * Int32.toNatClampNeg x36 + 36) (f_L_law__j371 G x36 m37) Φ := by
  unfold f_L_law__j371
  refine ev_goto (tgt := 2845) (ea_at dt_L_law__2 3 rfl) rfl ?_
  refine ev_wid (k' := 400 + Int32.toNatClampNeg x36 + 6) (n' := 30000 + 6 * Int32.toNatClampNeg x36 + 36) (show 400 + Int32.toNatClampNeg x36 + 6 ≤ 400 + Int32.toNatClampNeg x36 + 6 from by omega) (show 30000 + 6 * Int32.toNatClampNeg x36 + 36 ≤ 30000 + 6 * Int32.toNatClampNeg x36 + 36 from by omega) ?_
  exact ev_drop (l' := [some (.ref 2000), some (.ref 0), some (.ref 272), some (.ref 287), some (.int x36), none, none]) ⟨Or.inr rfl, Or.inr rfl, Or.inr rfl, Or.inr rfl, Or.inr rfl, Or.inl rfl, Or.inl rfl, trivial⟩ (jn_L_law__2845 G x36 m37 hx36 hC hR hX)
set_option maxHeartbeats 300000 in
theorem jn_L_law__330 (G : ea_G) {res : ea_O}  (x28 : Int32) (m29 : ea_M) (hx28 : Int32.toNatClampNeg x28 ≤ 4000) {Φ : ((Int32 × ea_M) ⊕ ((Int32 × ea_M) ⊕ (ea_M))) → Prop} (hC : ∀ s23 : Int32 × ea_M, Φ (.inl s23) → ea_Ev G F_L_law_ res 23 [some (.ref 2000), some (.ref 0), some (.ref 272), some (.ref 287), some (.int s23.1), none, none] [] s23.2 (400 + Int32.toNatClampNeg s23.1) (30000 + 6 * Int32.toNatClampNeg s23.1)) (hR : ∀ t : Int32 × ea_M, Φ (.inr (.inl t)) → res = (0, t)) (hX : ∀ x23s : ea_M, Φ (.inr (.inr x23s)) → ea_Ev G F_L_law_ res 2851 [none, none, none, none, none, none, none] [] x23s 5000 60000) : ea_E G F_L_law_ res 330 [some (.ref 2000), some (.ref 0), some (.ref 272), some (.ref 287), some (.int x28), none, none] [] m29 (400 + Int32.toNatClampNeg x28) (30000 + 6 * Int32.toNatClampNeg x28) (f_L_law__j330 G x28 m29) Φ := by
  unfold f_L_law__j330
  refine ev_aload_n (ea_at dt_L_law__1 39 rfl) rfl ?_
  refine ev_aload_n (ea_at dt_L_law__1 40 rfl) rfl ?_
  refine ev_clI (F1 := F_L_court) (fun rY mY hY => ea_runSH (As := [.ref 0, .ref 287]) (ea_at dt_L_law__1 41 rfl) ml_L_142 mv_L_court (ok_L_court G m29 rY mY hY) rfl rfl (Nat.le_of_ble_eq_true rfl) (ea_okK rfl (show 400 + Int32.toNatClampNeg x28 + 1 ≤ 601024 from by omega) (show 30000 + 6 * Int32.toNatClampNeg x28 + 6 ≤ 7293034 from by omega))) rfl (fun r31 m30 => ?_)
  refine ev_istore (ls' := [some (.ref 2000), some (.ref 0), some (.ref 272), some (.ref 287), some (.int x28), some (.int r31), none]) (ea_at dt_L_law__1 42 rfl) (ea_lt rfl) rfl ?_
  refine ev_aload_n (ea_at dt_L_law__1 43 rfl) rfl ?_
  refine ev_clI (F1 := F_X12_court) (fun rY mY hY => ea_runV (As := []) (ea_at dt_L_law__1 44 rfl) ml_L_147 mv_X12_court (ok_X12_court G m30 rY mY hY) sh_272 rfl rfl rfl (Nat.le_of_ble_eq_true rfl) (ea_okK rfl (show 400 + Int32.toNatClampNeg x28 + 1 + 0 ≤ 601024 from by omega) (show 30000 + 6 * Int32.toNatClampNeg x28 + 6 + 0 ≤ 7293034 from by omega))) rfl (fun r33 m32 => ?_)
  refine ev_istore (ls' := [some (.ref 2000), some (.ref 0), some (.ref 272), some (.ref 287), some (.int x28), some (.int r31), some (.int r33)]) (ea_at dt_L_law__1 45 rfl) (ea_lt rfl) rfl ?_
  refine ev_aload_n (ea_at dt_L_law__1 46 rfl) rfl ?_
  refine ev_clI (F1 := F_X12_thrown) (fun rY mY hY => ea_runV (As := []) (ea_at dt_L_law__1 47 rfl) ml_L_148 mv_X12_thrown (ok_X12_thrown G m32 rY mY hY) sh_272 rfl rfl rfl (Nat.le_of_ble_eq_true rfl) (ea_okK rfl (show 400 + Int32.toNatClampNeg x28 + 1 + 0 + 0 ≤ 601024 from by omega) (show 30000 + 6 * Int32.toNatClampNeg x28 + 6 + 0 + 0 ≤ 7293034 from by omega))) rfl (fun r35 m34 => ?_)
  refine ev_iload (ea_at dt_L_law__1 48 rfl) rfl ?_
  refine ev_icmp_eq (tgt := 354) (ea_at dt_L_law__1 49 rfl) rfl (fun _ => ?_) (fun _ => ?_)
  · refine ev_iload (ea_at dt_L_law__1 52 rfl) rfl ?_
    refine ev_if_ne (tgt := 371) (ea_at dt_L_law__1 53 rfl) rfl (fun _ => ?_) (fun _ => ?_)
    · refine ev_aload_n (ea_at dt_L_law__1 54 rfl) rfl ?_
      refine ev_iconst (ea_at dt_L_law__1 55 rfl) ic_0 ?_
      refine ev_laloadC (j := 0) (ea_at dt_L_law__1 56 rfl) sh_287 (by decide) (by decide) (by decide) ?_
      refine ev_iload (ea_at dt_L_law__1 57 rfl) rfl ?_
      refine ev_i2l (ea_at dt_L_law__1 58 rfl) ?_
      refine ev_lcmp (ea_at dt_L_law__1 59 rfl) ?_
      refine ev_if_eq (tgt := 371) (ea_at dt_L_law__2 0 rfl) rfl (fun _ => ?_) (fun _ => ?_)
      · refine ev_wid (k' := 400 + Int32.toNatClampNeg x28 + 6) (n' := 30000 + 6 * Int32.toNatClampNeg x28 + 36) (show 400 + Int32.toNatClampNeg x28 + 1 + 0 + 0 ≤ 400 + Int32.toNatClampNeg x28 + 6 from by omega) (show 30000 + 6 * Int32.toNatClampNeg x28 + 6 + 0 + 0 ≤ 30000 + 6 * Int32.toNatClampNeg x28 + 36 from by omega) ?_
        exact ev_drop (l' := [some (.ref 2000), some (.ref 0), some (.ref 272), some (.ref 287), some (.int x28), none, none]) ⟨Or.inr rfl, Or.inr rfl, Or.inr rfl, Or.inr rfl, Or.inr rfl, Or.inl rfl, Or.inl rfl, trivial⟩ (jn_L_law__371 G x28 m34 hx28 hC hR hX)
      · refine ev_iconst (ea_at dt_L_law__2 1 rfl) ic_0 ?_
        exact ev_zret (by decide) (ea_at dt_L_law__2 2 rfl) rfl ⟨show 400 + Int32.toNatClampNeg x28 + 1 + 0 + 0 ≤ 601024 from by omega, show 30000 + 6 * Int32.toNatClampNeg x28 + 6 + 0 + 0 ≤ 7293034 from by omega⟩ (fun h => hR _ h)
    · refine ev_wid (k' := 400 + Int32.toNatClampNeg x28 + 6) (n' := 30000 + 6 * Int32.toNatClampNeg x28 + 36) (show 400 + Int32.toNatClampNeg x28 + 1 + 0 + 0 ≤ 400 + Int32.toNatClampNeg x28 + 6 from by omega) (show 30000 + 6 * Int32.toNatClampNeg x28 + 6 + 0 + 0 ≤ 30000 + 6 * Int32.toNatClampNeg x28 + 36 from by omega) ?_
      exact ev_drop (l' := [some (.ref 2000), some (.ref 0), some (.ref 272), some (.ref 287), some (.int x28), none, none]) ⟨Or.inr rfl, Or.inr rfl, Or.inr rfl, Or.inr rfl, Or.inr rfl, Or.inl rfl, Or.inl rfl, trivial⟩ (jn_L_law__371 G x28 m34 hx28 hC hR hX)
  · refine ev_iconst (ea_at dt_L_law__1 50 rfl) ic_0 ?_
    exact ev_zret (by decide) (ea_at dt_L_law__1 51 rfl) rfl ⟨show 400 + Int32.toNatClampNeg x28 + 1 + 0 + 0 ≤ 601024 from by omega, show 30000 + 6 * Int32.toNatClampNeg x28 + 6 + 0 + 0 ≤ 7293034 from by omega⟩ (fun h => hR _ h)
set_option maxHeartbeats 300000 in
theorem jn_L_law__415 (G : ea_G) {res : ea_O}  (x46 : Int32) (m47 : ea_M) (hx46 : Int32.toNatClampNeg x46 ≤ 4000) {Φ : ((Int32 × ea_M) ⊕ ((Int32 × ea_M) ⊕ (ea_M))) → Prop} (hC : ∀ s23 : Int32 × ea_M, Φ (.inl s23) → ea_Ev G F_L_law_ res 23 [some (.ref 2000), some (.ref 0), some (.ref 272), some (.ref 287), some (.int s23.1), none, none] [] s23.2 (400 + Int32.toNatClampNeg s23.1) (30000 + 6 * Int32.toNatClampNeg s23.1)) (hR : ∀ t : Int32 × ea_M, Φ (.inr (.inl t)) → res = (0, t)) (hX : ∀ x23s : ea_M, Φ (.inr (.inr x23s)) → ea_Ev G F_L_law_ res 2851 [none, none, none, none, none, none, none] [] x23s 5000 60000) : ea_E G F_L_law_ res 415 [some (.ref 2000), some (.ref 0), some (.ref 272), some (.ref 287), some (.int x46), none, none] [] m47 (400 + Int32.toNatClampNeg x46 + 6) (30000 + 6 * Int32.toNatClampNeg x46 + 36) (f_L_law__j415 G x46 m47) Φ := by
  unfold f_L_law__j415
  refine ev_goto (tgt := 2845) (ea_at dt_L_law__2 28 rfl) rfl ?_
  refine ev_wid (k' := 400 + Int32.toNatClampNeg x46 + 6) (n' := 30000 + 6 * Int32.toNatClampNeg x46 + 36) (show 400 + Int32.toNatClampNeg x46 + 6 ≤ 400 + Int32.toNatClampNeg x46 + 6 from by omega) (show 30000 + 6 * Int32.toNatClampNeg x46 + 36 ≤ 30000 + 6 * Int32.toNatClampNeg x46 + 36 from by omega) ?_
  exact ev_drop (l' := [some (.ref 2000), some (.ref 0), some (.ref 272), some (.ref 287), some (.int x46), none, none]) ⟨Or.inr rfl, Or.inr rfl, Or.inr rfl, Or.inr rfl, Or.inr rfl, Or.inl rfl, Or.inl rfl, trivial⟩ (jn_L_law__2845 G x46 m47 hx46 hC hR hX)
set_option maxHeartbeats 300000 in
theorem jn_L_law__374 (G : ea_G) {res : ea_O}  (x38 : Int32) (m39 : ea_M) (hx38 : Int32.toNatClampNeg x38 ≤ 4000) {Φ : ((Int32 × ea_M) ⊕ ((Int32 × ea_M) ⊕ (ea_M))) → Prop} (hC : ∀ s23 : Int32 × ea_M, Φ (.inl s23) → ea_Ev G F_L_law_ res 23 [some (.ref 2000), some (.ref 0), some (.ref 272), some (.ref 287), some (.int s23.1), none, none] [] s23.2 (400 + Int32.toNatClampNeg s23.1) (30000 + 6 * Int32.toNatClampNeg s23.1)) (hR : ∀ t : Int32 × ea_M, Φ (.inr (.inl t)) → res = (0, t)) (hX : ∀ x23s : ea_M, Φ (.inr (.inr x23s)) → ea_Ev G F_L_law_ res 2851 [none, none, none, none, none, none, none] [] x23s 5000 60000) : ea_E G F_L_law_ res 374 [some (.ref 2000), some (.ref 0), some (.ref 272), some (.ref 287), some (.int x38), none, none] [] m39 (400 + Int32.toNatClampNeg x38) (30000 + 6 * Int32.toNatClampNeg x38) (f_L_law__j374 G x38 m39) Φ := by
  unfold f_L_law__j374
  refine ev_aload_n (ea_at dt_L_law__2 4 rfl) rfl ?_
  refine ev_aload_n (ea_at dt_L_law__2 5 rfl) rfl ?_
  refine ev_clI (F1 := F_L_law) (fun rY mY hY => ea_runSH (As := [.ref 0, .ref 287]) (ea_at dt_L_law__2 6 rfl) ml_L_151 mv_L_law (ok_L_law G m39 rY mY hY) rfl rfl (Nat.le_of_ble_eq_true rfl) (ea_okK rfl (show 400 + Int32.toNatClampNeg x38 + 1 ≤ 601024 from by omega) (show 30000 + 6 * Int32.toNatClampNeg x38 + 6 ≤ 7293034 from by omega))) rfl (fun r41 m40 => ?_)
  refine ev_istore (ls' := [some (.ref 2000), some (.ref 0), some (.ref 272), some (.ref 287), some (.int x38), some (.int r41), none]) (ea_at dt_L_law__2 7 rfl) (ea_lt rfl) rfl ?_
  refine ev_aload_n (ea_at dt_L_law__2 8 rfl) rfl ?_
  refine ev_clI (F1 := F_X12_law) (fun rY mY hY => ea_runV (As := []) (ea_at dt_L_law__2 9 rfl) ml_L_153 mv_X12_law (ok_X12_law G m40 rY mY hY) sh_272 rfl rfl rfl (Nat.le_of_ble_eq_true rfl) (ea_okK rfl (show 400 + Int32.toNatClampNeg x38 + 1 + 0 ≤ 601024 from by omega) (show 30000 + 6 * Int32.toNatClampNeg x38 + 6 + 0 ≤ 7293034 from by omega))) rfl (fun r43 m42 => ?_)
  refine ev_istore (ls' := [some (.ref 2000), some (.ref 0), some (.ref 272), some (.ref 287), some (.int x38), some (.int r41), some (.int r43)]) (ea_at dt_L_law__2 10 rfl) (ea_lt rfl) rfl ?_
  refine ev_aload_n (ea_at dt_L_law__2 11 rfl) rfl ?_
  refine ev_clI (F1 := F_X12_thrown) (fun rY mY hY => ea_runV (As := []) (ea_at dt_L_law__2 12 rfl) ml_L_148 mv_X12_thrown (ok_X12_thrown G m42 rY mY hY) sh_272 rfl rfl rfl (Nat.le_of_ble_eq_true rfl) (ea_okK rfl (show 400 + Int32.toNatClampNeg x38 + 1 + 0 + 0 ≤ 601024 from by omega) (show 30000 + 6 * Int32.toNatClampNeg x38 + 6 + 0 + 0 ≤ 7293034 from by omega))) rfl (fun r45 m44 => ?_)
  refine ev_iload (ea_at dt_L_law__2 13 rfl) rfl ?_
  refine ev_icmp_eq (tgt := 398) (ea_at dt_L_law__2 14 rfl) rfl (fun _ => ?_) (fun _ => ?_)
  · refine ev_iload (ea_at dt_L_law__2 17 rfl) rfl ?_
    refine ev_if_ne (tgt := 415) (ea_at dt_L_law__2 18 rfl) rfl (fun _ => ?_) (fun _ => ?_)
    · refine ev_aload_n (ea_at dt_L_law__2 19 rfl) rfl ?_
      refine ev_iconst (ea_at dt_L_law__2 20 rfl) ic_0 ?_
      refine ev_laloadC (j := 0) (ea_at dt_L_law__2 21 rfl) sh_287 (by decide) (by decide) (by decide) ?_
      refine ev_iload (ea_at dt_L_law__2 22 rfl) rfl ?_
      refine ev_i2l (ea_at dt_L_law__2 23 rfl) ?_
      refine ev_lcmp (ea_at dt_L_law__2 24 rfl) ?_
      refine ev_if_eq (tgt := 415) (ea_at dt_L_law__2 25 rfl) rfl (fun _ => ?_) (fun _ => ?_)
      · refine ev_wid (k' := 400 + Int32.toNatClampNeg x38 + 6) (n' := 30000 + 6 * Int32.toNatClampNeg x38 + 36) (show 400 + Int32.toNatClampNeg x38 + 1 + 0 + 0 ≤ 400 + Int32.toNatClampNeg x38 + 6 from by omega) (show 30000 + 6 * Int32.toNatClampNeg x38 + 6 + 0 + 0 ≤ 30000 + 6 * Int32.toNatClampNeg x38 + 36 from by omega) ?_
        exact ev_drop (l' := [some (.ref 2000), some (.ref 0), some (.ref 272), some (.ref 287), some (.int x38), none, none]) ⟨Or.inr rfl, Or.inr rfl, Or.inr rfl, Or.inr rfl, Or.inr rfl, Or.inl rfl, Or.inl rfl, trivial⟩ (jn_L_law__415 G x38 m44 hx38 hC hR hX)
      · refine ev_iconst (ea_at dt_L_law__2 26 rfl) ic_0 ?_
        exact ev_zret (by decide) (ea_at dt_L_law__2 27 rfl) rfl ⟨show 400 + Int32.toNatClampNeg x38 + 1 + 0 + 0 ≤ 601024 from by omega, show 30000 + 6 * Int32.toNatClampNeg x38 + 6 + 0 + 0 ≤ 7293034 from by omega⟩ (fun h => hR _ h)
    · refine ev_wid (k' := 400 + Int32.toNatClampNeg x38 + 6) (n' := 30000 + 6 * Int32.toNatClampNeg x38 + 36) (show 400 + Int32.toNatClampNeg x38 + 1 + 0 + 0 ≤ 400 + Int32.toNatClampNeg x38 + 6 from by omega) (show 30000 + 6 * Int32.toNatClampNeg x38 + 6 + 0 + 0 ≤ 30000 + 6 * Int32.toNatClampNeg x38 + 36 from by omega) ?_
      exact ev_drop (l' := [some (.ref 2000), some (.ref 0), some (.ref 272), some (.ref 287), some (.int x38), none, none]) ⟨Or.inr rfl, Or.inr rfl, Or.inr rfl, Or.inr rfl, Or.inr rfl, Or.inl rfl, Or.inl rfl, trivial⟩ (jn_L_law__415 G x38 m44 hx38 hC hR hX)
  · refine ev_iconst (ea_at dt_L_law__2 15 rfl) ic_0 ?_
    exact ev_zret (by decide) (ea_at dt_L_law__2 16 rfl) rfl ⟨show 400 + Int32.toNatClampNeg x38 + 1 + 0 + 0 ≤ 601024 from by omega, show 30000 + 6 * Int32.toNatClampNeg x38 + 6 + 0 + 0 ≤ 7293034 from by omega⟩ (fun h => hR _ h)
set_option maxHeartbeats 300000 in
theorem jn_L_law__418 (G : ea_G) {res : ea_O}  (x48 : Int32) (m49 : ea_M) (hx48 : Int32.toNatClampNeg x48 ≤ 4000) {Φ : ((Int32 × ea_M) ⊕ ((Int32 × ea_M) ⊕ (ea_M))) → Prop} (hC : ∀ s23 : Int32 × ea_M, Φ (.inl s23) → ea_Ev G F_L_law_ res 23 [some (.ref 2000), some (.ref 0), some (.ref 272), some (.ref 287), some (.int s23.1), none, none] [] s23.2 (400 + Int32.toNatClampNeg s23.1) (30000 + 6 * Int32.toNatClampNeg s23.1)) (hR : ∀ t : Int32 × ea_M, Φ (.inr (.inl t)) → res = (0, t)) (hX : ∀ x23s : ea_M, Φ (.inr (.inr x23s)) → ea_Ev G F_L_law_ res 2851 [none, none, none, none, none, none, none] [] x23s 5000 60000) : ea_E G F_L_law_ res 418 [some (.ref 2000), some (.ref 0), some (.ref 272), some (.ref 287), some (.int x48), none, none] [] m49 (400 + Int32.toNatClampNeg x48) (30000 + 6 * Int32.toNatClampNeg x48) (f_L_law__j418 G x48 m49) Φ := by
  unfold f_L_law__j418
  refine ev_aload_n (ea_at dt_L_law__2 29 rfl) rfl ?_
  refine ev_clI (F1 := F_X11_fault) (fun rY mY hY => ea_runV (As := []) (ea_at dt_L_law__2 30 rfl) ml_L_154 mv_X11_fault (ok_X11_fault G m49 rY mY hY) sh_0 rfl rfl rfl (Nat.le_of_ble_eq_true rfl) (ea_okK rfl (show 400 + Int32.toNatClampNeg x48 + 0 ≤ 601024 from by omega) (show 30000 + 6 * Int32.toNatClampNeg x48 + 0 ≤ 7293034 from by omega))) rfl (fun r51 m50 => ?_)
  refine ev_aload_n (ea_at dt_L_law__2 31 rfl) rfl ?_
  refine ev_clI (F1 := F_X12_fault) (fun rY mY hY => ea_runV (As := []) (ea_at dt_L_law__2 32 rfl) ml_L_157 mv_X12_fault (ok_X12_fault G m50 rY mY hY) sh_272 rfl rfl rfl (Nat.le_of_ble_eq_true rfl) (ea_okK rfl (show 400 + Int32.toNatClampNeg x48 + 0 + 0 ≤ 601024 from by omega) (show 30000 + 6 * Int32.toNatClampNeg x48 + 0 + 0 ≤ 7293034 from by omega))) rfl (fun r53 m52 => ?_)
  refine ev_icmp_eq (tgt := 2845) (ea_at dt_L_law__2 33 rfl) rfl (fun _ => ?_) (fun _ => ?_)
  · refine ev_wid (k' := 400 + Int32.toNatClampNeg x48 + 6) (n' := 30000 + 6 * Int32.toNatClampNeg x48 + 36) (show 400 + Int32.toNatClampNeg x48 + 0 + 0 ≤ 400 + Int32.toNatClampNeg x48 + 6 from by omega) (show 30000 + 6 * Int32.toNatClampNeg x48 + 0 + 0 ≤ 30000 + 6 * Int32.toNatClampNeg x48 + 36 from by omega) ?_
    exact ev_drop (l' := [some (.ref 2000), some (.ref 0), some (.ref 272), some (.ref 287), some (.int x48), none, none]) ⟨Or.inr rfl, Or.inr rfl, Or.inr rfl, Or.inr rfl, Or.inr rfl, Or.inl rfl, Or.inl rfl, trivial⟩ (jn_L_law__2845 G x48 m52 hx48 hC hR hX)
  · refine ev_iconst (ea_at dt_L_law__2 34 rfl) ic_0 ?_
    exact ev_zret (by decide) (ea_at dt_L_law__2 35 rfl) rfl ⟨show 400 + Int32.toNatClampNeg x48 + 0 + 0 ≤ 601024 from by omega, show 30000 + 6 * Int32.toNatClampNeg x48 + 0 + 0 ≤ 7293034 from by omega⟩ (fun h => hR _ h)
set_option maxHeartbeats 300000 in
theorem jn_L_law__496 (G : ea_G) {res : ea_O}  (x66 : Int32) (m67 : ea_M) (hx66 : Int32.toNatClampNeg x66 ≤ 4000) {Φ : ((Int32 × ea_M) ⊕ ((Int32 × ea_M) ⊕ (ea_M))) → Prop} (hC : ∀ s23 : Int32 × ea_M, Φ (.inl s23) → ea_Ev G F_L_law_ res 23 [some (.ref 2000), some (.ref 0), some (.ref 272), some (.ref 287), some (.int s23.1), none, none] [] s23.2 (400 + Int32.toNatClampNeg s23.1) (30000 + 6 * Int32.toNatClampNeg s23.1)) (hR : ∀ t : Int32 × ea_M, Φ (.inr (.inl t)) → res = (0, t)) (hX : ∀ x23s : ea_M, Φ (.inr (.inr x23s)) → ea_Ev G F_L_law_ res 2851 [none, none, none, none, none, none, none] [] x23s 5000 60000) : ea_E G F_L_law_ res 496 [some (.ref 2000), some (.ref 0), some (.ref 272), some (.ref 287), some (.int x66), none, none] [] m67 (400 + Int32.toNatClampNeg x66 + 6) (30000 + 6 * Int32.toNatClampNeg x66 + 36) (f_L_law__j496 G x66 m67) Φ := by
  unfold f_L_law__j496
  refine ev_goto (tgt := 2845) (ea_at dt_L_law__3 20 rfl) rfl ?_
  refine ev_wid (k' := 400 + Int32.toNatClampNeg x66 + 6) (n' := 30000 + 6 * Int32.toNatClampNeg x66 + 36) (show 400 + Int32.toNatClampNeg x66 + 6 ≤ 400 + Int32.toNatClampNeg x66 + 6 from by omega) (show 30000 + 6 * Int32.toNatClampNeg x66 + 36 ≤ 30000 + 6 * Int32.toNatClampNeg x66 + 36 from by omega) ?_
  exact ev_drop (l' := [some (.ref 2000), some (.ref 0), some (.ref 272), some (.ref 287), some (.int x66), none, none]) ⟨Or.inr rfl, Or.inr rfl, Or.inr rfl, Or.inr rfl, Or.inr rfl, Or.inl rfl, Or.inl rfl, trivial⟩ (jn_L_law__2845 G x66 m67 hx66 hC hR hX)
set_option maxHeartbeats 300000 in
theorem jn_L_law__431 (G : ea_G) {res : ea_O}  (x54 : Int32) (m55 : ea_M) (hx54 : Int32.toNatClampNeg x54 ≤ 4000) {Φ : ((Int32 × ea_M) ⊕ ((Int32 × ea_M) ⊕ (ea_M))) → Prop} (hC : ∀ s23 : Int32 × ea_M, Φ (.inl s23) → ea_Ev G F_L_law_ res 23 [some (.ref 2000), some (.ref 0), some (.ref 272), some (.ref 287), some (.int s23.1), none, none] [] s23.2 (400 + Int32.toNatClampNeg s23.1) (30000 + 6 * Int32.toNatClampNeg s23.1)) (hR : ∀ t : Int32 × ea_M, Φ (.inr (.inl t)) → res = (0, t)) (hX : ∀ x23s : ea_M, Φ (.inr (.inr x23s)) → ea_Ev G F_L_law_ res 2851 [none, none, none, none, none, none, none] [] x23s 5000 60000) : ea_E G F_L_law_ res 431 [some (.ref 2000), some (.ref 0), some (.ref 272), some (.ref 287), some (.int x54), none, none] [] m55 (400 + Int32.toNatClampNeg x54) (30000 + 6 * Int32.toNatClampNeg x54) (f_L_law__j431 G x54 m55) Φ := by
  unfold f_L_law__j431
  refine ev_aload_n (ea_at dt_L_law__2 36 rfl) rfl ?_
  refine ev_aload_n (ea_at dt_L_law__2 37 rfl) rfl ?_
  refine ev_iload (ea_at dt_L_law__2 38 rfl) rfl ?_
  refine ev_iconst (ea_at dt_L_law__2 39 rfl) ic_1 ?_
  refine ev_iadd (ea_at dt_L_law__2 40 rfl) ?_
  refine ev_script (ea_at dt_L_law__2 41 rfl) ?_
  refine ev_i (fun x56 => ?_)
  refine ev_aload_n (ea_at dt_L_law__2 42 rfl) rfl ?_
  refine ev_iload (ea_at dt_L_law__2 43 rfl) rfl ?_
  refine ev_iconst (ea_at dt_L_law__2 44 rfl) ic_2 ?_
  refine ev_iadd (ea_at dt_L_law__2 45 rfl) ?_
  refine ev_script (ea_at dt_L_law__2 46 rfl) ?_
  refine ev_i (fun x57 => ?_)
  refine ev_aload_n (ea_at dt_L_law__2 47 rfl) rfl ?_
  refine ev_clI (F1 := F_L_bird) (fun rY mY hY => ea_runSH (As := [.ref 0, .int x56, .int x57, .ref 287]) (ea_at dt_L_law__2 48 rfl) ml_L_158 mv_L_bird (ok_L_bird G x56 x57 m55 rY mY hY) rfl rfl (Nat.le_of_ble_eq_true rfl) (ea_okK rfl (show 400 + Int32.toNatClampNeg x54 + 2 ≤ 601024 from by omega) (show 30000 + 6 * Int32.toNatClampNeg x54 + 12 ≤ 7293034 from by omega))) rfl (fun r59 m58 => ?_)
  refine ev_istore (ls' := [some (.ref 2000), some (.ref 0), some (.ref 272), some (.ref 287), some (.int x54), some (.int r59), none]) (ea_at dt_L_law__2 49 rfl) (ea_lt rfl) rfl ?_
  refine ev_aload_n (ea_at dt_L_law__2 50 rfl) rfl ?_
  refine ev_aload_n (ea_at dt_L_law__2 51 rfl) rfl ?_
  refine ev_iload (ea_at dt_L_law__2 52 rfl) rfl ?_
  refine ev_iconst (ea_at dt_L_law__2 53 rfl) ic_1 ?_
  refine ev_iadd (ea_at dt_L_law__2 54 rfl) ?_
  refine ev_script (ea_at dt_L_law__2 55 rfl) ?_
  refine ev_i (fun x60 => ?_)
  refine ev_aload_n (ea_at dt_L_law__2 56 rfl) rfl ?_
  refine ev_iload (ea_at dt_L_law__2 57 rfl) rfl ?_
  refine ev_iconst (ea_at dt_L_law__2 58 rfl) ic_2 ?_
  refine ev_iadd (ea_at dt_L_law__2 59 rfl) ?_
  refine ev_script (ea_at dt_L_law__3 0 rfl) ?_
  refine ev_i (fun x61 => ?_)
  refine ev_clI (F1 := F_X12_bird) (fun rY mY hY => ea_runV (As := [.int x60, .int x61]) (ea_at dt_L_law__3 1 rfl) ml_L_161 mv_X12_bird (ok_X12_bird G x60 x61 m58 rY mY hY) sh_272 rfl rfl rfl (Nat.le_of_ble_eq_true rfl) (ea_okK rfl (show 400 + Int32.toNatClampNeg x54 + 2 + 0 ≤ 601024 from by omega) (show 30000 + 6 * Int32.toNatClampNeg x54 + 12 + 0 ≤ 7293034 from by omega))) rfl (fun r63 m62 => ?_)
  refine ev_istore (ls' := [some (.ref 2000), some (.ref 0), some (.ref 272), some (.ref 287), some (.int x54), some (.int r59), some (.int r63)]) (ea_at dt_L_law__3 2 rfl) (ea_lt rfl) rfl ?_
  refine ev_aload_n (ea_at dt_L_law__3 3 rfl) rfl ?_
  refine ev_clI (F1 := F_X12_thrown) (fun rY mY hY => ea_runV (As := []) (ea_at dt_L_law__3 4 rfl) ml_L_148 mv_X12_thrown (ok_X12_thrown G m62 rY mY hY) sh_272 rfl rfl rfl (Nat.le_of_ble_eq_true rfl) (ea_okK rfl (show 400 + Int32.toNatClampNeg x54 + 2 + 0 + 0 ≤ 601024 from by omega) (show 30000 + 6 * Int32.toNatClampNeg x54 + 12 + 0 + 0 ≤ 7293034 from by omega))) rfl (fun r65 m64 => ?_)
  refine ev_iload (ea_at dt_L_law__3 5 rfl) rfl ?_
  refine ev_icmp_eq (tgt := 479) (ea_at dt_L_law__3 6 rfl) rfl (fun _ => ?_) (fun _ => ?_)
  · refine ev_iload (ea_at dt_L_law__3 9 rfl) rfl ?_
    refine ev_if_ne (tgt := 496) (ea_at dt_L_law__3 10 rfl) rfl (fun _ => ?_) (fun _ => ?_)
    · refine ev_aload_n (ea_at dt_L_law__3 11 rfl) rfl ?_
      refine ev_iconst (ea_at dt_L_law__3 12 rfl) ic_0 ?_
      refine ev_laloadC (j := 0) (ea_at dt_L_law__3 13 rfl) sh_287 (by decide) (by decide) (by decide) ?_
      refine ev_iload (ea_at dt_L_law__3 14 rfl) rfl ?_
      refine ev_i2l (ea_at dt_L_law__3 15 rfl) ?_
      refine ev_lcmp (ea_at dt_L_law__3 16 rfl) ?_
      refine ev_if_eq (tgt := 496) (ea_at dt_L_law__3 17 rfl) rfl (fun _ => ?_) (fun _ => ?_)
      · refine ev_wid (k' := 400 + Int32.toNatClampNeg x54 + 6) (n' := 30000 + 6 * Int32.toNatClampNeg x54 + 36) (show 400 + Int32.toNatClampNeg x54 + 2 + 0 + 0 ≤ 400 + Int32.toNatClampNeg x54 + 6 from by omega) (show 30000 + 6 * Int32.toNatClampNeg x54 + 12 + 0 + 0 ≤ 30000 + 6 * Int32.toNatClampNeg x54 + 36 from by omega) ?_
        exact ev_drop (l' := [some (.ref 2000), some (.ref 0), some (.ref 272), some (.ref 287), some (.int x54), none, none]) ⟨Or.inr rfl, Or.inr rfl, Or.inr rfl, Or.inr rfl, Or.inr rfl, Or.inl rfl, Or.inl rfl, trivial⟩ (jn_L_law__496 G x54 m64 hx54 hC hR hX)
      · refine ev_iconst (ea_at dt_L_law__3 18 rfl) ic_0 ?_
        exact ev_zret (by decide) (ea_at dt_L_law__3 19 rfl) rfl ⟨show 400 + Int32.toNatClampNeg x54 + 2 + 0 + 0 ≤ 601024 from by omega, show 30000 + 6 * Int32.toNatClampNeg x54 + 12 + 0 + 0 ≤ 7293034 from by omega⟩ (fun h => hR _ h)
    · refine ev_wid (k' := 400 + Int32.toNatClampNeg x54 + 6) (n' := 30000 + 6 * Int32.toNatClampNeg x54 + 36) (show 400 + Int32.toNatClampNeg x54 + 2 + 0 + 0 ≤ 400 + Int32.toNatClampNeg x54 + 6 from by omega) (show 30000 + 6 * Int32.toNatClampNeg x54 + 12 + 0 + 0 ≤ 30000 + 6 * Int32.toNatClampNeg x54 + 36 from by omega) ?_
      exact ev_drop (l' := [some (.ref 2000), some (.ref 0), some (.ref 272), some (.ref 287), some (.int x54), none, none]) ⟨Or.inr rfl, Or.inr rfl, Or.inr rfl, Or.inr rfl, Or.inr rfl, Or.inl rfl, Or.inl rfl, trivial⟩ (jn_L_law__496 G x54 m64 hx54 hC hR hX)
  · refine ev_iconst (ea_at dt_L_law__3 7 rfl) ic_0 ?_
    exact ev_zret (by decide) (ea_at dt_L_law__3 8 rfl) rfl ⟨show 400 + Int32.toNatClampNeg x54 + 2 + 0 + 0 ≤ 601024 from by omega, show 30000 + 6 * Int32.toNatClampNeg x54 + 12 + 0 + 0 ≤ 7293034 from by omega⟩ (fun h => hR _ h)
set_option maxHeartbeats 300000 in
theorem jn_L_law__564 (G : ea_G) {res : ea_O}  (x80 : Int32) (m81 : ea_M) (hx80 : Int32.toNatClampNeg x80 ≤ 4000) {Φ : ((Int32 × ea_M) ⊕ ((Int32 × ea_M) ⊕ (ea_M))) → Prop} (hC : ∀ s23 : Int32 × ea_M, Φ (.inl s23) → ea_Ev G F_L_law_ res 23 [some (.ref 2000), some (.ref 0), some (.ref 272), some (.ref 287), some (.int s23.1), none, none] [] s23.2 (400 + Int32.toNatClampNeg s23.1) (30000 + 6 * Int32.toNatClampNeg s23.1)) (hR : ∀ t : Int32 × ea_M, Φ (.inr (.inl t)) → res = (0, t)) (hX : ∀ x23s : ea_M, Φ (.inr (.inr x23s)) → ea_Ev G F_L_law_ res 2851 [none, none, none, none, none, none, none] [] x23s 5000 60000) : ea_E G F_L_law_ res 564 [some (.ref 2000), some (.ref 0), some (.ref 272), some (.ref 287), some (.int x80), none, none] [] m81 (400 + Int32.toNatClampNeg x80 + 6) (30000 + 6 * Int32.toNatClampNeg x80 + 36) (f_L_law__j564 G x80 m81) Φ := by
  unfold f_L_law__j564
  refine ev_goto (tgt := 2845) (ea_at dt_L_law__4 5 rfl) rfl ?_
  refine ev_wid (k' := 400 + Int32.toNatClampNeg x80 + 6) (n' := 30000 + 6 * Int32.toNatClampNeg x80 + 36) (show 400 + Int32.toNatClampNeg x80 + 6 ≤ 400 + Int32.toNatClampNeg x80 + 6 from by omega) (show 30000 + 6 * Int32.toNatClampNeg x80 + 36 ≤ 30000 + 6 * Int32.toNatClampNeg x80 + 36 from by omega) ?_
  exact ev_drop (l' := [some (.ref 2000), some (.ref 0), some (.ref 272), some (.ref 287), some (.int x80), none, none]) ⟨Or.inr rfl, Or.inr rfl, Or.inr rfl, Or.inr rfl, Or.inr rfl, Or.inl rfl, Or.inl rfl, trivial⟩ (jn_L_law__2845 G x80 m81 hx80 hC hR hX)
set_option maxHeartbeats 300000 in
theorem jn_L_law__499 (G : ea_G) {res : ea_O}  (x68 : Int32) (m69 : ea_M) (hx68 : Int32.toNatClampNeg x68 ≤ 4000) {Φ : ((Int32 × ea_M) ⊕ ((Int32 × ea_M) ⊕ (ea_M))) → Prop} (hC : ∀ s23 : Int32 × ea_M, Φ (.inl s23) → ea_Ev G F_L_law_ res 23 [some (.ref 2000), some (.ref 0), some (.ref 272), some (.ref 287), some (.int s23.1), none, none] [] s23.2 (400 + Int32.toNatClampNeg s23.1) (30000 + 6 * Int32.toNatClampNeg s23.1)) (hR : ∀ t : Int32 × ea_M, Φ (.inr (.inl t)) → res = (0, t)) (hX : ∀ x23s : ea_M, Φ (.inr (.inr x23s)) → ea_Ev G F_L_law_ res 2851 [none, none, none, none, none, none, none] [] x23s 5000 60000) : ea_E G F_L_law_ res 499 [some (.ref 2000), some (.ref 0), some (.ref 272), some (.ref 287), some (.int x68), none, none] [] m69 (400 + Int32.toNatClampNeg x68) (30000 + 6 * Int32.toNatClampNeg x68) (f_L_law__j499 G x68 m69) Φ := by
  unfold f_L_law__j499
  refine ev_aload_n (ea_at dt_L_law__3 21 rfl) rfl ?_
  refine ev_aload_n (ea_at dt_L_law__3 22 rfl) rfl ?_
  refine ev_iload (ea_at dt_L_law__3 23 rfl) rfl ?_
  refine ev_iconst (ea_at dt_L_law__3 24 rfl) ic_1 ?_
  refine ev_iadd (ea_at dt_L_law__3 25 rfl) ?_
  refine ev_script (ea_at dt_L_law__3 26 rfl) ?_
  refine ev_i (fun x70 => ?_)
  refine ev_aload_n (ea_at dt_L_law__3 27 rfl) rfl ?_
  refine ev_iload (ea_at dt_L_law__3 28 rfl) rfl ?_
  refine ev_iconst (ea_at dt_L_law__3 29 rfl) ic_2 ?_
  refine ev_iadd (ea_at dt_L_law__3 30 rfl) ?_
  refine ev_script (ea_at dt_L_law__3 31 rfl) ?_
  refine ev_i (fun x71 => ?_)
  refine ev_aload_n (ea_at dt_L_law__3 32 rfl) rfl ?_
  refine ev_clI (F1 := F_L_stock) (fun rY mY hY => ea_runSH (As := [.ref 0, .int x70, .int x71, .ref 287]) (ea_at dt_L_law__3 33 rfl) ml_L_162 mv_L_stock (ok_L_stock G x70 x71 m69 rY mY hY) rfl rfl (Nat.le_of_ble_eq_true rfl) (ea_okK rfl (show 400 + Int32.toNatClampNeg x68 + 2 ≤ 601024 from by omega) (show 30000 + 6 * Int32.toNatClampNeg x68 + 12 ≤ 7293034 from by omega))) rfl (fun r73 m72 => ?_)
  refine ev_istore (ls' := [some (.ref 2000), some (.ref 0), some (.ref 272), some (.ref 287), some (.int x68), some (.int r73), none]) (ea_at dt_L_law__3 34 rfl) (ea_lt rfl) rfl ?_
  refine ev_aload_n (ea_at dt_L_law__3 35 rfl) rfl ?_
  refine ev_aload_n (ea_at dt_L_law__3 36 rfl) rfl ?_
  refine ev_iload (ea_at dt_L_law__3 37 rfl) rfl ?_
  refine ev_iconst (ea_at dt_L_law__3 38 rfl) ic_1 ?_
  refine ev_iadd (ea_at dt_L_law__3 39 rfl) ?_
  refine ev_script (ea_at dt_L_law__3 40 rfl) ?_
  refine ev_i (fun x74 => ?_)
  refine ev_aload_n (ea_at dt_L_law__3 41 rfl) rfl ?_
  refine ev_iload (ea_at dt_L_law__3 42 rfl) rfl ?_
  refine ev_iconst (ea_at dt_L_law__3 43 rfl) ic_2 ?_
  refine ev_iadd (ea_at dt_L_law__3 44 rfl) ?_
  refine ev_script (ea_at dt_L_law__3 45 rfl) ?_
  refine ev_i (fun x75 => ?_)
  refine ev_clI (F1 := F_X12_stock) (fun rY mY hY => ea_runV (As := [.int x74, .int x75]) (ea_at dt_L_law__3 46 rfl) ml_L_164 mv_X12_stock (ok_X12_stock G x74 x75 m72 rY mY hY) sh_272 rfl rfl rfl (Nat.le_of_ble_eq_true rfl) (ea_okK rfl (show 400 + Int32.toNatClampNeg x68 + 2 + 0 ≤ 601024 from by omega) (show 30000 + 6 * Int32.toNatClampNeg x68 + 12 + 0 ≤ 7293034 from by omega))) rfl (fun r77 m76 => ?_)
  refine ev_istore (ls' := [some (.ref 2000), some (.ref 0), some (.ref 272), some (.ref 287), some (.int x68), some (.int r73), some (.int r77)]) (ea_at dt_L_law__3 47 rfl) (ea_lt rfl) rfl ?_
  refine ev_aload_n (ea_at dt_L_law__3 48 rfl) rfl ?_
  refine ev_clI (F1 := F_X12_thrown) (fun rY mY hY => ea_runV (As := []) (ea_at dt_L_law__3 49 rfl) ml_L_148 mv_X12_thrown (ok_X12_thrown G m76 rY mY hY) sh_272 rfl rfl rfl (Nat.le_of_ble_eq_true rfl) (ea_okK rfl (show 400 + Int32.toNatClampNeg x68 + 2 + 0 + 0 ≤ 601024 from by omega) (show 30000 + 6 * Int32.toNatClampNeg x68 + 12 + 0 + 0 ≤ 7293034 from by omega))) rfl (fun r79 m78 => ?_)
  refine ev_iload (ea_at dt_L_law__3 50 rfl) rfl ?_
  refine ev_icmp_eq (tgt := 547) (ea_at dt_L_law__3 51 rfl) rfl (fun _ => ?_) (fun _ => ?_)
  · refine ev_iload (ea_at dt_L_law__3 54 rfl) rfl ?_
    refine ev_if_ne (tgt := 564) (ea_at dt_L_law__3 55 rfl) rfl (fun _ => ?_) (fun _ => ?_)
    · refine ev_aload_n (ea_at dt_L_law__3 56 rfl) rfl ?_
      refine ev_iconst (ea_at dt_L_law__3 57 rfl) ic_0 ?_
      refine ev_laloadC (j := 0) (ea_at dt_L_law__3 58 rfl) sh_287 (by decide) (by decide) (by decide) ?_
      refine ev_iload (ea_at dt_L_law__3 59 rfl) rfl ?_
      refine ev_i2l (ea_at dt_L_law__4 0 rfl) ?_
      refine ev_lcmp (ea_at dt_L_law__4 1 rfl) ?_
      refine ev_if_eq (tgt := 564) (ea_at dt_L_law__4 2 rfl) rfl (fun _ => ?_) (fun _ => ?_)
      · refine ev_wid (k' := 400 + Int32.toNatClampNeg x68 + 6) (n' := 30000 + 6 * Int32.toNatClampNeg x68 + 36) (show 400 + Int32.toNatClampNeg x68 + 2 + 0 + 0 ≤ 400 + Int32.toNatClampNeg x68 + 6 from by omega) (show 30000 + 6 * Int32.toNatClampNeg x68 + 12 + 0 + 0 ≤ 30000 + 6 * Int32.toNatClampNeg x68 + 36 from by omega) ?_
        exact ev_drop (l' := [some (.ref 2000), some (.ref 0), some (.ref 272), some (.ref 287), some (.int x68), none, none]) ⟨Or.inr rfl, Or.inr rfl, Or.inr rfl, Or.inr rfl, Or.inr rfl, Or.inl rfl, Or.inl rfl, trivial⟩ (jn_L_law__564 G x68 m78 hx68 hC hR hX)
      · refine ev_iconst (ea_at dt_L_law__4 3 rfl) ic_0 ?_
        exact ev_zret (by decide) (ea_at dt_L_law__4 4 rfl) rfl ⟨show 400 + Int32.toNatClampNeg x68 + 2 + 0 + 0 ≤ 601024 from by omega, show 30000 + 6 * Int32.toNatClampNeg x68 + 12 + 0 + 0 ≤ 7293034 from by omega⟩ (fun h => hR _ h)
    · refine ev_wid (k' := 400 + Int32.toNatClampNeg x68 + 6) (n' := 30000 + 6 * Int32.toNatClampNeg x68 + 36) (show 400 + Int32.toNatClampNeg x68 + 2 + 0 + 0 ≤ 400 + Int32.toNatClampNeg x68 + 6 from by omega) (show 30000 + 6 * Int32.toNatClampNeg x68 + 12 + 0 + 0 ≤ 30000 + 6 * Int32.toNatClampNeg x68 + 36 from by omega) ?_
      exact ev_drop (l' := [some (.ref 2000), some (.ref 0), some (.ref 272), some (.ref 287), some (.int x68), none, none]) ⟨Or.inr rfl, Or.inr rfl, Or.inr rfl, Or.inr rfl, Or.inr rfl, Or.inl rfl, Or.inl rfl, trivial⟩ (jn_L_law__564 G x68 m78 hx68 hC hR hX)
  · refine ev_iconst (ea_at dt_L_law__3 52 rfl) ic_0 ?_
    exact ev_zret (by decide) (ea_at dt_L_law__3 53 rfl) rfl ⟨show 400 + Int32.toNatClampNeg x68 + 2 + 0 + 0 ≤ 601024 from by omega, show 30000 + 6 * Int32.toNatClampNeg x68 + 12 + 0 + 0 ≤ 7293034 from by omega⟩ (fun h => hR _ h)
set_option maxHeartbeats 300000 in
theorem jn_L_law__632 (G : ea_G) {res : ea_O}  (x94 : Int32) (m95 : ea_M) (hx94 : Int32.toNatClampNeg x94 ≤ 4000) {Φ : ((Int32 × ea_M) ⊕ ((Int32 × ea_M) ⊕ (ea_M))) → Prop} (hC : ∀ s23 : Int32 × ea_M, Φ (.inl s23) → ea_Ev G F_L_law_ res 23 [some (.ref 2000), some (.ref 0), some (.ref 272), some (.ref 287), some (.int s23.1), none, none] [] s23.2 (400 + Int32.toNatClampNeg s23.1) (30000 + 6 * Int32.toNatClampNeg s23.1)) (hR : ∀ t : Int32 × ea_M, Φ (.inr (.inl t)) → res = (0, t)) (hX : ∀ x23s : ea_M, Φ (.inr (.inr x23s)) → ea_Ev G F_L_law_ res 2851 [none, none, none, none, none, none, none] [] x23s 5000 60000) : ea_E G F_L_law_ res 632 [some (.ref 2000), some (.ref 0), some (.ref 272), some (.ref 287), some (.int x94), none, none] [] m95 (400 + Int32.toNatClampNeg x94 + 6) (30000 + 6 * Int32.toNatClampNeg x94 + 36) (f_L_law__j632 G x94 m95) Φ := by
  unfold f_L_law__j632
  refine ev_goto (tgt := 2845) (ea_at dt_L_law__4 50 rfl) rfl ?_
  refine ev_wid (k' := 400 + Int32.toNatClampNeg x94 + 6) (n' := 30000 + 6 * Int32.toNatClampNeg x94 + 36) (show 400 + Int32.toNatClampNeg x94 + 6 ≤ 400 + Int32.toNatClampNeg x94 + 6 from by omega) (show 30000 + 6 * Int32.toNatClampNeg x94 + 36 ≤ 30000 + 6 * Int32.toNatClampNeg x94 + 36 from by omega) ?_
  exact ev_drop (l' := [some (.ref 2000), some (.ref 0), some (.ref 272), some (.ref 287), some (.int x94), none, none]) ⟨Or.inr rfl, Or.inr rfl, Or.inr rfl, Or.inr rfl, Or.inr rfl, Or.inl rfl, Or.inl rfl, trivial⟩ (jn_L_law__2845 G x94 m95 hx94 hC hR hX)
set_option maxHeartbeats 300000 in
theorem jn_L_law__567 (G : ea_G) {res : ea_O}  (x82 : Int32) (m83 : ea_M) (hx82 : Int32.toNatClampNeg x82 ≤ 4000) {Φ : ((Int32 × ea_M) ⊕ ((Int32 × ea_M) ⊕ (ea_M))) → Prop} (hC : ∀ s23 : Int32 × ea_M, Φ (.inl s23) → ea_Ev G F_L_law_ res 23 [some (.ref 2000), some (.ref 0), some (.ref 272), some (.ref 287), some (.int s23.1), none, none] [] s23.2 (400 + Int32.toNatClampNeg s23.1) (30000 + 6 * Int32.toNatClampNeg s23.1)) (hR : ∀ t : Int32 × ea_M, Φ (.inr (.inl t)) → res = (0, t)) (hX : ∀ x23s : ea_M, Φ (.inr (.inr x23s)) → ea_Ev G F_L_law_ res 2851 [none, none, none, none, none, none, none] [] x23s 5000 60000) : ea_E G F_L_law_ res 567 [some (.ref 2000), some (.ref 0), some (.ref 272), some (.ref 287), some (.int x82), none, none] [] m83 (400 + Int32.toNatClampNeg x82) (30000 + 6 * Int32.toNatClampNeg x82) (f_L_law__j567 G x82 m83) Φ := by
  unfold f_L_law__j567
  refine ev_aload_n (ea_at dt_L_law__4 6 rfl) rfl ?_
  refine ev_aload_n (ea_at dt_L_law__4 7 rfl) rfl ?_
  refine ev_iload (ea_at dt_L_law__4 8 rfl) rfl ?_
  refine ev_iconst (ea_at dt_L_law__4 9 rfl) ic_1 ?_
  refine ev_iadd (ea_at dt_L_law__4 10 rfl) ?_
  refine ev_script (ea_at dt_L_law__4 11 rfl) ?_
  refine ev_i (fun x84 => ?_)
  refine ev_aload_n (ea_at dt_L_law__4 12 rfl) rfl ?_
  refine ev_iload (ea_at dt_L_law__4 13 rfl) rfl ?_
  refine ev_iconst (ea_at dt_L_law__4 14 rfl) ic_2 ?_
  refine ev_iadd (ea_at dt_L_law__4 15 rfl) ?_
  refine ev_script (ea_at dt_L_law__4 16 rfl) ?_
  refine ev_i (fun x85 => ?_)
  refine ev_aload_n (ea_at dt_L_law__4 17 rfl) rfl ?_
  refine ev_clI (F1 := F_L_matter) (fun rY mY hY => ea_runSH (As := [.ref 0, .int x84, .int x85, .ref 287]) (ea_at dt_L_law__4 18 rfl) ml_L_165 mv_L_matter (ok_L_matter G x84 x85 m83 rY mY hY) rfl rfl (Nat.le_of_ble_eq_true rfl) (ea_okK rfl (show 400 + Int32.toNatClampNeg x82 + 2 ≤ 601024 from by omega) (show 30000 + 6 * Int32.toNatClampNeg x82 + 12 ≤ 7293034 from by omega))) rfl (fun r87 m86 => ?_)
  refine ev_istore (ls' := [some (.ref 2000), some (.ref 0), some (.ref 272), some (.ref 287), some (.int x82), some (.int r87), none]) (ea_at dt_L_law__4 19 rfl) (ea_lt rfl) rfl ?_
  refine ev_aload_n (ea_at dt_L_law__4 20 rfl) rfl ?_
  refine ev_aload_n (ea_at dt_L_law__4 21 rfl) rfl ?_
  refine ev_iload (ea_at dt_L_law__4 22 rfl) rfl ?_
  refine ev_iconst (ea_at dt_L_law__4 23 rfl) ic_1 ?_
  refine ev_iadd (ea_at dt_L_law__4 24 rfl) ?_
  refine ev_script (ea_at dt_L_law__4 25 rfl) ?_
  refine ev_i (fun x88 => ?_)
  refine ev_aload_n (ea_at dt_L_law__4 26 rfl) rfl ?_
  refine ev_iload (ea_at dt_L_law__4 27 rfl) rfl ?_
  refine ev_iconst (ea_at dt_L_law__4 28 rfl) ic_2 ?_
  refine ev_iadd (ea_at dt_L_law__4 29 rfl) ?_
  refine ev_script (ea_at dt_L_law__4 30 rfl) ?_
  refine ev_i (fun x89 => ?_)
  refine ev_clI (F1 := F_X12_matter) (fun rY mY hY => ea_runV (As := [.int x88, .int x89]) (ea_at dt_L_law__4 31 rfl) ml_L_167 mv_X12_matter (ok_X12_matter G x88 x89 m86 rY mY hY) sh_272 rfl rfl rfl (Nat.le_of_ble_eq_true rfl) (ea_okK rfl (show 400 + Int32.toNatClampNeg x82 + 2 + 0 ≤ 601024 from by omega) (show 30000 + 6 * Int32.toNatClampNeg x82 + 12 + 0 ≤ 7293034 from by omega))) rfl (fun r91 m90 => ?_)
  refine ev_istore (ls' := [some (.ref 2000), some (.ref 0), some (.ref 272), some (.ref 287), some (.int x82), some (.int r87), some (.int r91)]) (ea_at dt_L_law__4 32 rfl) (ea_lt rfl) rfl ?_
  refine ev_aload_n (ea_at dt_L_law__4 33 rfl) rfl ?_
  refine ev_clI (F1 := F_X12_thrown) (fun rY mY hY => ea_runV (As := []) (ea_at dt_L_law__4 34 rfl) ml_L_148 mv_X12_thrown (ok_X12_thrown G m90 rY mY hY) sh_272 rfl rfl rfl (Nat.le_of_ble_eq_true rfl) (ea_okK rfl (show 400 + Int32.toNatClampNeg x82 + 2 + 0 + 0 ≤ 601024 from by omega) (show 30000 + 6 * Int32.toNatClampNeg x82 + 12 + 0 + 0 ≤ 7293034 from by omega))) rfl (fun r93 m92 => ?_)
  refine ev_iload (ea_at dt_L_law__4 35 rfl) rfl ?_
  refine ev_icmp_eq (tgt := 615) (ea_at dt_L_law__4 36 rfl) rfl (fun _ => ?_) (fun _ => ?_)
  · refine ev_iload (ea_at dt_L_law__4 39 rfl) rfl ?_
    refine ev_if_ne (tgt := 632) (ea_at dt_L_law__4 40 rfl) rfl (fun _ => ?_) (fun _ => ?_)
    · refine ev_aload_n (ea_at dt_L_law__4 41 rfl) rfl ?_
      refine ev_iconst (ea_at dt_L_law__4 42 rfl) ic_0 ?_
      refine ev_laloadC (j := 0) (ea_at dt_L_law__4 43 rfl) sh_287 (by decide) (by decide) (by decide) ?_
      refine ev_iload (ea_at dt_L_law__4 44 rfl) rfl ?_
      refine ev_i2l (ea_at dt_L_law__4 45 rfl) ?_
      refine ev_lcmp (ea_at dt_L_law__4 46 rfl) ?_
      refine ev_if_eq (tgt := 632) (ea_at dt_L_law__4 47 rfl) rfl (fun _ => ?_) (fun _ => ?_)
      · refine ev_wid (k' := 400 + Int32.toNatClampNeg x82 + 6) (n' := 30000 + 6 * Int32.toNatClampNeg x82 + 36) (show 400 + Int32.toNatClampNeg x82 + 2 + 0 + 0 ≤ 400 + Int32.toNatClampNeg x82 + 6 from by omega) (show 30000 + 6 * Int32.toNatClampNeg x82 + 12 + 0 + 0 ≤ 30000 + 6 * Int32.toNatClampNeg x82 + 36 from by omega) ?_
        exact ev_drop (l' := [some (.ref 2000), some (.ref 0), some (.ref 272), some (.ref 287), some (.int x82), none, none]) ⟨Or.inr rfl, Or.inr rfl, Or.inr rfl, Or.inr rfl, Or.inr rfl, Or.inl rfl, Or.inl rfl, trivial⟩ (jn_L_law__632 G x82 m92 hx82 hC hR hX)
      · refine ev_iconst (ea_at dt_L_law__4 48 rfl) ic_0 ?_
        exact ev_zret (by decide) (ea_at dt_L_law__4 49 rfl) rfl ⟨show 400 + Int32.toNatClampNeg x82 + 2 + 0 + 0 ≤ 601024 from by omega, show 30000 + 6 * Int32.toNatClampNeg x82 + 12 + 0 + 0 ≤ 7293034 from by omega⟩ (fun h => hR _ h)
    · refine ev_wid (k' := 400 + Int32.toNatClampNeg x82 + 6) (n' := 30000 + 6 * Int32.toNatClampNeg x82 + 36) (show 400 + Int32.toNatClampNeg x82 + 2 + 0 + 0 ≤ 400 + Int32.toNatClampNeg x82 + 6 from by omega) (show 30000 + 6 * Int32.toNatClampNeg x82 + 12 + 0 + 0 ≤ 30000 + 6 * Int32.toNatClampNeg x82 + 36 from by omega) ?_
      exact ev_drop (l' := [some (.ref 2000), some (.ref 0), some (.ref 272), some (.ref 287), some (.int x82), none, none]) ⟨Or.inr rfl, Or.inr rfl, Or.inr rfl, Or.inr rfl, Or.inr rfl, Or.inl rfl, Or.inl rfl, trivial⟩ (jn_L_law__632 G x82 m92 hx82 hC hR hX)
  · refine ev_iconst (ea_at dt_L_law__4 37 rfl) ic_0 ?_
    exact ev_zret (by decide) (ea_at dt_L_law__4 38 rfl) rfl ⟨show 400 + Int32.toNatClampNeg x82 + 2 + 0 + 0 ≤ 601024 from by omega, show 30000 + 6 * Int32.toNatClampNeg x82 + 12 + 0 + 0 ≤ 7293034 from by omega⟩ (fun h => hR _ h)
set_option maxHeartbeats 300000 in
theorem jn_L_law__688 (G : ea_G) {res : ea_O}  (x106 : Int32) (m107 : ea_M) (hx106 : Int32.toNatClampNeg x106 ≤ 4000) {Φ : ((Int32 × ea_M) ⊕ ((Int32 × ea_M) ⊕ (ea_M))) → Prop} (hC : ∀ s23 : Int32 × ea_M, Φ (.inl s23) → ea_Ev G F_L_law_ res 23 [some (.ref 2000), some (.ref 0), some (.ref 272), some (.ref 287), some (.int s23.1), none, none] [] s23.2 (400 + Int32.toNatClampNeg s23.1) (30000 + 6 * Int32.toNatClampNeg s23.1)) (hR : ∀ t : Int32 × ea_M, Φ (.inr (.inl t)) → res = (0, t)) (hX : ∀ x23s : ea_M, Φ (.inr (.inr x23s)) → ea_Ev G F_L_law_ res 2851 [none, none, none, none, none, none, none] [] x23s 5000 60000) : ea_E G F_L_law_ res 688 [some (.ref 2000), some (.ref 0), some (.ref 272), some (.ref 287), some (.int x106), none, none] [] m107 (400 + Int32.toNatClampNeg x106 + 6) (30000 + 6 * Int32.toNatClampNeg x106 + 36) (f_L_law__j688 G x106 m107) Φ := by
  unfold f_L_law__j688
  refine ev_goto (tgt := 2845) (ea_at dt_L_law__5 25 rfl) rfl ?_
  refine ev_wid (k' := 400 + Int32.toNatClampNeg x106 + 6) (n' := 30000 + 6 * Int32.toNatClampNeg x106 + 36) (show 400 + Int32.toNatClampNeg x106 + 6 ≤ 400 + Int32.toNatClampNeg x106 + 6 from by omega) (show 30000 + 6 * Int32.toNatClampNeg x106 + 36 ≤ 30000 + 6 * Int32.toNatClampNeg x106 + 36 from by omega) ?_
  exact ev_drop (l' := [some (.ref 2000), some (.ref 0), some (.ref 272), some (.ref 287), some (.int x106), none, none]) ⟨Or.inr rfl, Or.inr rfl, Or.inr rfl, Or.inr rfl, Or.inr rfl, Or.inl rfl, Or.inl rfl, trivial⟩ (jn_L_law__2845 G x106 m107 hx106 hC hR hX)
set_option maxHeartbeats 300000 in
theorem jn_L_law__635 (G : ea_G) {res : ea_O}  (x96 : Int32) (m97 : ea_M) (hx96 : Int32.toNatClampNeg x96 ≤ 4000) {Φ : ((Int32 × ea_M) ⊕ ((Int32 × ea_M) ⊕ (ea_M))) → Prop} (hC : ∀ s23 : Int32 × ea_M, Φ (.inl s23) → ea_Ev G F_L_law_ res 23 [some (.ref 2000), some (.ref 0), some (.ref 272), some (.ref 287), some (.int s23.1), none, none] [] s23.2 (400 + Int32.toNatClampNeg s23.1) (30000 + 6 * Int32.toNatClampNeg s23.1)) (hR : ∀ t : Int32 × ea_M, Φ (.inr (.inl t)) → res = (0, t)) (hX : ∀ x23s : ea_M, Φ (.inr (.inr x23s)) → ea_Ev G F_L_law_ res 2851 [none, none, none, none, none, none, none] [] x23s 5000 60000) : ea_E G F_L_law_ res 635 [some (.ref 2000), some (.ref 0), some (.ref 272), some (.ref 287), some (.int x96), none, none] [] m97 (400 + Int32.toNatClampNeg x96) (30000 + 6 * Int32.toNatClampNeg x96) (f_L_law__j635 G x96 m97) Φ := by
  unfold f_L_law__j635
  refine ev_aload_n (ea_at dt_L_law__4 51 rfl) rfl ?_
  refine ev_aload_n (ea_at dt_L_law__4 52 rfl) rfl ?_
  refine ev_iload (ea_at dt_L_law__4 53 rfl) rfl ?_
  refine ev_iconst (ea_at dt_L_law__4 54 rfl) ic_1 ?_
  refine ev_iadd (ea_at dt_L_law__4 55 rfl) ?_
  refine ev_script (ea_at dt_L_law__4 56 rfl) ?_
  refine ev_i (fun x98 => ?_)
  refine ev_aload_n (ea_at dt_L_law__4 57 rfl) rfl ?_
  refine ev_clI (F1 := F_L_wind) (fun rY mY hY => ea_runSH (As := [.ref 0, .int x98, .ref 287]) (ea_at dt_L_law__4 58 rfl) ml_L_168 mv_L_wind (ok_L_wind G x98 m97 rY mY hY) rfl rfl (Nat.le_of_ble_eq_true rfl) (ea_okK rfl (show 400 + Int32.toNatClampNeg x96 + 1 ≤ 601024 from by omega) (show 30000 + 6 * Int32.toNatClampNeg x96 + 6 ≤ 7293034 from by omega))) rfl (fun r100 m99 => ?_)
  refine ev_istore (ls' := [some (.ref 2000), some (.ref 0), some (.ref 272), some (.ref 287), some (.int x96), some (.int r100), none]) (ea_at dt_L_law__4 59 rfl) (ea_lt rfl) rfl ?_
  refine ev_aload_n (ea_at dt_L_law__5 0 rfl) rfl ?_
  refine ev_aload_n (ea_at dt_L_law__5 1 rfl) rfl ?_
  refine ev_iload (ea_at dt_L_law__5 2 rfl) rfl ?_
  refine ev_iconst (ea_at dt_L_law__5 3 rfl) ic_1 ?_
  refine ev_iadd (ea_at dt_L_law__5 4 rfl) ?_
  refine ev_script (ea_at dt_L_law__5 5 rfl) ?_
  refine ev_i (fun x101 => ?_)
  refine ev_clI (F1 := F_X12_wind) (fun rY mY hY => ea_runV (As := [.int x101]) (ea_at dt_L_law__5 6 rfl) ml_L_171 mv_X12_wind (ok_X12_wind G x101 m99 rY mY hY) sh_272 rfl rfl rfl (Nat.le_of_ble_eq_true rfl) (ea_okK rfl (show 400 + Int32.toNatClampNeg x96 + 1 + 0 ≤ 601024 from by omega) (show 30000 + 6 * Int32.toNatClampNeg x96 + 6 + 0 ≤ 7293034 from by omega))) rfl (fun r103 m102 => ?_)
  refine ev_istore (ls' := [some (.ref 2000), some (.ref 0), some (.ref 272), some (.ref 287), some (.int x96), some (.int r100), some (.int r103)]) (ea_at dt_L_law__5 7 rfl) (ea_lt rfl) rfl ?_
  refine ev_aload_n (ea_at dt_L_law__5 8 rfl) rfl ?_
  refine ev_clI (F1 := F_X12_thrown) (fun rY mY hY => ea_runV (As := []) (ea_at dt_L_law__5 9 rfl) ml_L_148 mv_X12_thrown (ok_X12_thrown G m102 rY mY hY) sh_272 rfl rfl rfl (Nat.le_of_ble_eq_true rfl) (ea_okK rfl (show 400 + Int32.toNatClampNeg x96 + 1 + 0 + 0 ≤ 601024 from by omega) (show 30000 + 6 * Int32.toNatClampNeg x96 + 6 + 0 + 0 ≤ 7293034 from by omega))) rfl (fun r105 m104 => ?_)
  refine ev_iload (ea_at dt_L_law__5 10 rfl) rfl ?_
  refine ev_icmp_eq (tgt := 671) (ea_at dt_L_law__5 11 rfl) rfl (fun _ => ?_) (fun _ => ?_)
  · refine ev_iload (ea_at dt_L_law__5 14 rfl) rfl ?_
    refine ev_if_ne (tgt := 688) (ea_at dt_L_law__5 15 rfl) rfl (fun _ => ?_) (fun _ => ?_)
    · refine ev_aload_n (ea_at dt_L_law__5 16 rfl) rfl ?_
      refine ev_iconst (ea_at dt_L_law__5 17 rfl) ic_0 ?_
      refine ev_laloadC (j := 0) (ea_at dt_L_law__5 18 rfl) sh_287 (by decide) (by decide) (by decide) ?_
      refine ev_iload (ea_at dt_L_law__5 19 rfl) rfl ?_
      refine ev_i2l (ea_at dt_L_law__5 20 rfl) ?_
      refine ev_lcmp (ea_at dt_L_law__5 21 rfl) ?_
      refine ev_if_eq (tgt := 688) (ea_at dt_L_law__5 22 rfl) rfl (fun _ => ?_) (fun _ => ?_)
      · refine ev_wid (k' := 400 + Int32.toNatClampNeg x96 + 6) (n' := 30000 + 6 * Int32.toNatClampNeg x96 + 36) (show 400 + Int32.toNatClampNeg x96 + 1 + 0 + 0 ≤ 400 + Int32.toNatClampNeg x96 + 6 from by omega) (show 30000 + 6 * Int32.toNatClampNeg x96 + 6 + 0 + 0 ≤ 30000 + 6 * Int32.toNatClampNeg x96 + 36 from by omega) ?_
        exact ev_drop (l' := [some (.ref 2000), some (.ref 0), some (.ref 272), some (.ref 287), some (.int x96), none, none]) ⟨Or.inr rfl, Or.inr rfl, Or.inr rfl, Or.inr rfl, Or.inr rfl, Or.inl rfl, Or.inl rfl, trivial⟩ (jn_L_law__688 G x96 m104 hx96 hC hR hX)
      · refine ev_iconst (ea_at dt_L_law__5 23 rfl) ic_0 ?_
        exact ev_zret (by decide) (ea_at dt_L_law__5 24 rfl) rfl ⟨show 400 + Int32.toNatClampNeg x96 + 1 + 0 + 0 ≤ 601024 from by omega, show 30000 + 6 * Int32.toNatClampNeg x96 + 6 + 0 + 0 ≤ 7293034 from by omega⟩ (fun h => hR _ h)
    · refine ev_wid (k' := 400 + Int32.toNatClampNeg x96 + 6) (n' := 30000 + 6 * Int32.toNatClampNeg x96 + 36) (show 400 + Int32.toNatClampNeg x96 + 1 + 0 + 0 ≤ 400 + Int32.toNatClampNeg x96 + 6 from by omega) (show 30000 + 6 * Int32.toNatClampNeg x96 + 6 + 0 + 0 ≤ 30000 + 6 * Int32.toNatClampNeg x96 + 36 from by omega) ?_
      exact ev_drop (l' := [some (.ref 2000), some (.ref 0), some (.ref 272), some (.ref 287), some (.int x96), none, none]) ⟨Or.inr rfl, Or.inr rfl, Or.inr rfl, Or.inr rfl, Or.inr rfl, Or.inl rfl, Or.inl rfl, trivial⟩ (jn_L_law__688 G x96 m104 hx96 hC hR hX)
  · refine ev_iconst (ea_at dt_L_law__5 12 rfl) ic_0 ?_
    exact ev_zret (by decide) (ea_at dt_L_law__5 13 rfl) rfl ⟨show 400 + Int32.toNatClampNeg x96 + 1 + 0 + 0 ≤ 601024 from by omega, show 30000 + 6 * Int32.toNatClampNeg x96 + 6 + 0 + 0 ≤ 7293034 from by omega⟩ (fun h => hR _ h)
set_option maxHeartbeats 300000 in
theorem jn_L_law__808 (G : ea_G) {res : ea_O}  (x141 : Int32) (m142 : ea_M) (hx141 : Int32.toNatClampNeg x141 ≤ 4000) {Φ : ((Int32 × ea_M) ⊕ ((Int32 × ea_M) ⊕ (ea_M))) → Prop} (hC : ∀ s23 : Int32 × ea_M, Φ (.inl s23) → ea_Ev G F_L_law_ res 23 [some (.ref 2000), some (.ref 0), some (.ref 272), some (.ref 287), some (.int s23.1), none, none] [] s23.2 (400 + Int32.toNatClampNeg s23.1) (30000 + 6 * Int32.toNatClampNeg s23.1)) (hR : ∀ t : Int32 × ea_M, Φ (.inr (.inl t)) → res = (0, t)) (hX : ∀ x23s : ea_M, Φ (.inr (.inr x23s)) → ea_Ev G F_L_law_ res 2851 [none, none, none, none, none, none, none] [] x23s 5000 60000) : ea_E G F_L_law_ res 808 [some (.ref 2000), some (.ref 0), some (.ref 272), some (.ref 287), some (.int x141), none, none] [] m142 (400 + Int32.toNatClampNeg x141 + 6) (30000 + 6 * Int32.toNatClampNeg x141 + 36) (f_L_law__j808 G x141 m142) Φ := by
  unfold f_L_law__j808
  refine ev_goto (tgt := 2845) (ea_at dt_L_law__6 48 rfl) rfl ?_
  refine ev_wid (k' := 400 + Int32.toNatClampNeg x141 + 6) (n' := 30000 + 6 * Int32.toNatClampNeg x141 + 36) (show 400 + Int32.toNatClampNeg x141 + 6 ≤ 400 + Int32.toNatClampNeg x141 + 6 from by omega) (show 30000 + 6 * Int32.toNatClampNeg x141 + 36 ≤ 30000 + 6 * Int32.toNatClampNeg x141 + 36 from by omega) ?_
  exact ev_drop (l' := [some (.ref 2000), some (.ref 0), some (.ref 272), some (.ref 287), some (.int x141), none, none]) ⟨Or.inr rfl, Or.inr rfl, Or.inr rfl, Or.inr rfl, Or.inr rfl, Or.inl rfl, Or.inl rfl, trivial⟩ (jn_L_law__2845 G x141 m142 hx141 hC hR hX)
set_option maxHeartbeats 300000 in
theorem jn_L_law__775 (G : ea_G) {res : ea_O}  (x129 : Int32) (x130 : Int32) (x131 : Int32) (x132 : Int32) (x133 : Int32) (x134 : Int32) (x135 : Int32) (m136 : ea_M) (hx129 : Int32.toNatClampNeg x129 ≤ 4000) {Φ : ((Int32 × ea_M) ⊕ ((Int32 × ea_M) ⊕ (ea_M))) → Prop} (hC : ∀ s23 : Int32 × ea_M, Φ (.inl s23) → ea_Ev G F_L_law_ res 23 [some (.ref 2000), some (.ref 0), some (.ref 272), some (.ref 287), some (.int s23.1), none, none] [] s23.2 (400 + Int32.toNatClampNeg s23.1) (30000 + 6 * Int32.toNatClampNeg s23.1)) (hR : ∀ t : Int32 × ea_M, Φ (.inr (.inl t)) → res = (0, t)) (hX : ∀ x23s : ea_M, Φ (.inr (.inr x23s)) → ea_Ev G F_L_law_ res 2851 [none, none, none, none, none, none, none] [] x23s 5000 60000) : ea_E G F_L_law_ res 775 [some (.ref 2000), some (.ref 0), some (.ref 272), some (.ref 287), some (.int x129), some (.int x130), none] [.int x135, .int x134, .int x133, .int x132, .int x131, .ref 272] m136 (400 + Int32.toNatClampNeg x129 + 4) (30000 + 6 * Int32.toNatClampNeg x129 + 24) (f_L_law__j775 G x129 x130 x131 x132 x133 x134 x135 m136) Φ := by
  unfold f_L_law__j775
  refine ev_clI (F1 := F_X12_moves) (fun rY mY hY => ea_runV (As := [.int x131, .int x132, .int x133, .int x134, .int x135]) (ea_at dt_L_law__6 29 rfl) ml_L_175 mv_X12_moves (ok_X12_moves G x131 x132 x133 x134 x135 m136 rY mY hY) sh_272 rfl rfl rfl (Nat.le_of_ble_eq_true rfl) (ea_okK rfl (show 400 + Int32.toNatClampNeg x129 + 4 + 0 ≤ 601024 from by omega) (show 30000 + 6 * Int32.toNatClampNeg x129 + 24 + 0 ≤ 7293034 from by omega))) rfl (fun r138 m137 => ?_)
  refine ev_istore (ls' := [some (.ref 2000), some (.ref 0), some (.ref 272), some (.ref 287), some (.int x129), some (.int x130), some (.int r138)]) (ea_at dt_L_law__6 30 rfl) (ea_lt rfl) rfl ?_
  refine ev_aload_n (ea_at dt_L_law__6 31 rfl) rfl ?_
  refine ev_clI (F1 := F_X12_thrown) (fun rY mY hY => ea_runV (As := []) (ea_at dt_L_law__6 32 rfl) ml_L_148 mv_X12_thrown (ok_X12_thrown G m137 rY mY hY) sh_272 rfl rfl rfl (Nat.le_of_ble_eq_true rfl) (ea_okK rfl (show 400 + Int32.toNatClampNeg x129 + 4 + 0 + 0 ≤ 601024 from by omega) (show 30000 + 6 * Int32.toNatClampNeg x129 + 24 + 0 + 0 ≤ 7293034 from by omega))) rfl (fun r140 m139 => ?_)
  refine ev_iload (ea_at dt_L_law__6 33 rfl) rfl ?_
  refine ev_icmp_eq (tgt := 791) (ea_at dt_L_law__6 34 rfl) rfl (fun _ => ?_) (fun _ => ?_)
  · refine ev_iload (ea_at dt_L_law__6 37 rfl) rfl ?_
    refine ev_if_ne (tgt := 808) (ea_at dt_L_law__6 38 rfl) rfl (fun _ => ?_) (fun _ => ?_)
    · refine ev_aload_n (ea_at dt_L_law__6 39 rfl) rfl ?_
      refine ev_iconst (ea_at dt_L_law__6 40 rfl) ic_0 ?_
      refine ev_laloadC (j := 0) (ea_at dt_L_law__6 41 rfl) sh_287 (by decide) (by decide) (by decide) ?_
      refine ev_iload (ea_at dt_L_law__6 42 rfl) rfl ?_
      refine ev_i2l (ea_at dt_L_law__6 43 rfl) ?_
      refine ev_lcmp (ea_at dt_L_law__6 44 rfl) ?_
      refine ev_if_eq (tgt := 808) (ea_at dt_L_law__6 45 rfl) rfl (fun _ => ?_) (fun _ => ?_)
      · refine ev_wid (k' := 400 + Int32.toNatClampNeg x129 + 6) (n' := 30000 + 6 * Int32.toNatClampNeg x129 + 36) (show 400 + Int32.toNatClampNeg x129 + 4 + 0 + 0 ≤ 400 + Int32.toNatClampNeg x129 + 6 from by omega) (show 30000 + 6 * Int32.toNatClampNeg x129 + 24 + 0 + 0 ≤ 30000 + 6 * Int32.toNatClampNeg x129 + 36 from by omega) ?_
        exact ev_drop (l' := [some (.ref 2000), some (.ref 0), some (.ref 272), some (.ref 287), some (.int x129), none, none]) ⟨Or.inr rfl, Or.inr rfl, Or.inr rfl, Or.inr rfl, Or.inr rfl, Or.inl rfl, Or.inl rfl, trivial⟩ (jn_L_law__808 G x129 m139 hx129 hC hR hX)
      · refine ev_iconst (ea_at dt_L_law__6 46 rfl) ic_0 ?_
        exact ev_zret (by decide) (ea_at dt_L_law__6 47 rfl) rfl ⟨show 400 + Int32.toNatClampNeg x129 + 4 + 0 + 0 ≤ 601024 from by omega, show 30000 + 6 * Int32.toNatClampNeg x129 + 24 + 0 + 0 ≤ 7293034 from by omega⟩ (fun h => hR _ h)
    · refine ev_wid (k' := 400 + Int32.toNatClampNeg x129 + 6) (n' := 30000 + 6 * Int32.toNatClampNeg x129 + 36) (show 400 + Int32.toNatClampNeg x129 + 4 + 0 + 0 ≤ 400 + Int32.toNatClampNeg x129 + 6 from by omega) (show 30000 + 6 * Int32.toNatClampNeg x129 + 24 + 0 + 0 ≤ 30000 + 6 * Int32.toNatClampNeg x129 + 36 from by omega) ?_
      exact ev_drop (l' := [some (.ref 2000), some (.ref 0), some (.ref 272), some (.ref 287), some (.int x129), none, none]) ⟨Or.inr rfl, Or.inr rfl, Or.inr rfl, Or.inr rfl, Or.inr rfl, Or.inl rfl, Or.inl rfl, trivial⟩ (jn_L_law__808 G x129 m139 hx129 hC hR hX)
  · refine ev_iconst (ea_at dt_L_law__6 35 rfl) ic_0 ?_
    exact ev_zret (by decide) (ea_at dt_L_law__6 36 rfl) rfl ⟨show 400 + Int32.toNatClampNeg x129 + 4 + 0 + 0 ≤ 601024 from by omega, show 30000 + 6 * Int32.toNatClampNeg x129 + 24 + 0 + 0 ≤ 7293034 from by omega⟩ (fun h => hR _ h)
set_option maxHeartbeats 300000 in
theorem jn_L_law__730 (G : ea_G) {res : ea_O}  (x115 : Int32) (x116 : Int32) (x117 : Int32) (x118 : Int32) (x119 : Int32) (x120 : Int32) (m121 : ea_M) (hx115 : Int32.toNatClampNeg x115 ≤ 4000) {Φ : ((Int32 × ea_M) ⊕ ((Int32 × ea_M) ⊕ (ea_M))) → Prop} (hC : ∀ s23 : Int32 × ea_M, Φ (.inl s23) → ea_Ev G F_L_law_ res 23 [some (.ref 2000), some (.ref 0), some (.ref 272), some (.ref 287), some (.int s23.1), none, none] [] s23.2 (400 + Int32.toNatClampNeg s23.1) (30000 + 6 * Int32.toNatClampNeg s23.1)) (hR : ∀ t : Int32 × ea_M, Φ (.inr (.inl t)) → res = (0, t)) (hX : ∀ x23s : ea_M, Φ (.inr (.inr x23s)) → ea_Ev G F_L_law_ res 2851 [none, none, none, none, none, none, none] [] x23s 5000 60000) : ea_E G F_L_law_ res 730 [some (.ref 2000), some (.ref 0), some (.ref 272), some (.ref 287), some (.int x115), none, none] [.int x120, .int x119, .int x118, .int x117, .int x116, .ref 0] m121 (400 + Int32.toNatClampNeg x115) (30000 + 6 * Int32.toNatClampNeg x115) (f_L_law__j730 G x115 x116 x117 x118 x119 x120 m121) Φ := by
  unfold f_L_law__j730
  refine ev_aload_n (ea_at dt_L_law__5 56 rfl) rfl ?_
  refine ev_clI (F1 := F_L_moves) (fun rY mY hY => ea_runSH (As := [.ref 0, .int x116, .int x117, .int x118, .int x119, .int x120, .ref 287]) (ea_at dt_L_law__5 57 rfl) ml_L_172 mv_L_moves (ok_L_moves G x116 x117 x118 x119 x120 m121 rY mY hY) rfl rfl (Nat.le_of_ble_eq_true rfl) (ea_okK rfl (show 400 + Int32.toNatClampNeg x115 + 4 ≤ 601024 from by omega) (show 30000 + 6 * Int32.toNatClampNeg x115 + 24 ≤ 7293034 from by omega))) rfl (fun r123 m122 => ?_)
  refine ev_istore (ls' := [some (.ref 2000), some (.ref 0), some (.ref 272), some (.ref 287), some (.int x115), some (.int r123), none]) (ea_at dt_L_law__5 58 rfl) (ea_lt rfl) rfl ?_
  refine ev_aload_n (ea_at dt_L_law__5 59 rfl) rfl ?_
  refine ev_aload_n (ea_at dt_L_law__6 0 rfl) rfl ?_
  refine ev_iload (ea_at dt_L_law__6 1 rfl) rfl ?_
  refine ev_iconst (ea_at dt_L_law__6 2 rfl) ic_1 ?_
  refine ev_iadd (ea_at dt_L_law__6 3 rfl) ?_
  refine ev_script (ea_at dt_L_law__6 4 rfl) ?_
  refine ev_i (fun x124 => ?_)
  refine ev_aload_n (ea_at dt_L_law__6 5 rfl) rfl ?_
  refine ev_iload (ea_at dt_L_law__6 6 rfl) rfl ?_
  refine ev_iconst (ea_at dt_L_law__6 7 rfl) ic_2 ?_
  refine ev_iadd (ea_at dt_L_law__6 8 rfl) ?_
  refine ev_script (ea_at dt_L_law__6 9 rfl) ?_
  refine ev_i (fun x125 => ?_)
  refine ev_aload_n (ea_at dt_L_law__6 10 rfl) rfl ?_
  refine ev_iload (ea_at dt_L_law__6 11 rfl) rfl ?_
  refine ev_iconst (ea_at dt_L_law__6 12 rfl) ic_3 ?_
  refine ev_iadd (ea_at dt_L_law__6 13 rfl) ?_
  refine ev_script (ea_at dt_L_law__6 14 rfl) ?_
  refine ev_i (fun x126 => ?_)
  refine ev_aload_n (ea_at dt_L_law__6 15 rfl) rfl ?_
  refine ev_iload (ea_at dt_L_law__6 16 rfl) rfl ?_
  refine ev_iconst (ea_at dt_L_law__6 17 rfl) ic_4 ?_
  refine ev_iadd (ea_at dt_L_law__6 18 rfl) ?_
  refine ev_script (ea_at dt_L_law__6 19 rfl) ?_
  refine ev_i (fun x127 => ?_)
  refine ev_aload_n (ea_at dt_L_law__6 20 rfl) rfl ?_
  refine ev_iload (ea_at dt_L_law__6 21 rfl) rfl ?_
  refine ev_iconst (ea_at dt_L_law__6 22 rfl) ic_5 ?_
  refine ev_iadd (ea_at dt_L_law__6 23 rfl) ?_
  refine ev_script (ea_at dt_L_law__6 24 rfl) ?_
  refine ev_i (fun x128 => ?_)
  refine ev_if_eq (tgt := 774) (ea_at dt_L_law__6 25 rfl) rfl (fun _ => ?_) (fun _ => ?_)
  · refine ev_iconst (ea_at dt_L_law__6 28 rfl) ic_0 ?_
    refine ev_wid (k' := 400 + Int32.toNatClampNeg x115 + 4) (n' := 30000 + 6 * Int32.toNatClampNeg x115 + 24) (show 400 + Int32.toNatClampNeg x115 + 4 ≤ 400 + Int32.toNatClampNeg x115 + 4 from by omega) (show 30000 + 6 * Int32.toNatClampNeg x115 + 24 ≤ 30000 + 6 * Int32.toNatClampNeg x115 + 24 from by omega) ?_
    exact ev_drop (l' := [some (.ref 2000), some (.ref 0), some (.ref 272), some (.ref 287), some (.int x115), some (.int r123), none]) ⟨Or.inr rfl, Or.inr rfl, Or.inr rfl, Or.inr rfl, Or.inr rfl, Or.inr rfl, Or.inl rfl, trivial⟩ (jn_L_law__775 G x115 r123 x124 x125 x126 x127 0 m122 hx115 hC hR hX)
  · refine ev_iconst (ea_at dt_L_law__6 26 rfl) ic_1 ?_
    refine ev_goto (tgt := 775) (ea_at dt_L_law__6 27 rfl) rfl ?_
    refine ev_wid (k' := 400 + Int32.toNatClampNeg x115 + 4) (n' := 30000 + 6 * Int32.toNatClampNeg x115 + 24) (show 400 + Int32.toNatClampNeg x115 + 4 ≤ 400 + Int32.toNatClampNeg x115 + 4 from by omega) (show 30000 + 6 * Int32.toNatClampNeg x115 + 24 ≤ 30000 + 6 * Int32.toNatClampNeg x115 + 24 from by omega) ?_
    exact ev_drop (l' := [some (.ref 2000), some (.ref 0), some (.ref 272), some (.ref 287), some (.int x115), some (.int r123), none]) ⟨Or.inr rfl, Or.inr rfl, Or.inr rfl, Or.inr rfl, Or.inr rfl, Or.inr rfl, Or.inl rfl, trivial⟩ (jn_L_law__775 G x115 r123 x124 x125 x126 x127 1 m122 hx115 hC hR hX)
set_option maxHeartbeats 300000 in
theorem jn_L_law__691 (G : ea_G) {res : ea_O}  (x108 : Int32) (m109 : ea_M) (hx108 : Int32.toNatClampNeg x108 ≤ 4000) {Φ : ((Int32 × ea_M) ⊕ ((Int32 × ea_M) ⊕ (ea_M))) → Prop} (hC : ∀ s23 : Int32 × ea_M, Φ (.inl s23) → ea_Ev G F_L_law_ res 23 [some (.ref 2000), some (.ref 0), some (.ref 272), some (.ref 287), some (.int s23.1), none, none] [] s23.2 (400 + Int32.toNatClampNeg s23.1) (30000 + 6 * Int32.toNatClampNeg s23.1)) (hR : ∀ t : Int32 × ea_M, Φ (.inr (.inl t)) → res = (0, t)) (hX : ∀ x23s : ea_M, Φ (.inr (.inr x23s)) → ea_Ev G F_L_law_ res 2851 [none, none, none, none, none, none, none] [] x23s 5000 60000) : ea_E G F_L_law_ res 691 [some (.ref 2000), some (.ref 0), some (.ref 272), some (.ref 287), some (.int x108), none, none] [] m109 (400 + Int32.toNatClampNeg x108) (30000 + 6 * Int32.toNatClampNeg x108) (f_L_law__j691 G x108 m109) Φ := by
  unfold f_L_law__j691
  refine ev_aload_n (ea_at dt_L_law__5 26 rfl) rfl ?_
  refine ev_aload_n (ea_at dt_L_law__5 27 rfl) rfl ?_
  refine ev_iload (ea_at dt_L_law__5 28 rfl) rfl ?_
  refine ev_iconst (ea_at dt_L_law__5 29 rfl) ic_1 ?_
  refine ev_iadd (ea_at dt_L_law__5 30 rfl) ?_
  refine ev_script (ea_at dt_L_law__5 31 rfl) ?_
  refine ev_i (fun x110 => ?_)
  refine ev_aload_n (ea_at dt_L_law__5 32 rfl) rfl ?_
  refine ev_iload (ea_at dt_L_law__5 33 rfl) rfl ?_
  refine ev_iconst (ea_at dt_L_law__5 34 rfl) ic_2 ?_
  refine ev_iadd (ea_at dt_L_law__5 35 rfl) ?_
  refine ev_script (ea_at dt_L_law__5 36 rfl) ?_
  refine ev_i (fun x111 => ?_)
  refine ev_aload_n (ea_at dt_L_law__5 37 rfl) rfl ?_
  refine ev_iload (ea_at dt_L_law__5 38 rfl) rfl ?_
  refine ev_iconst (ea_at dt_L_law__5 39 rfl) ic_3 ?_
  refine ev_iadd (ea_at dt_L_law__5 40 rfl) ?_
  refine ev_script (ea_at dt_L_law__5 41 rfl) ?_
  refine ev_i (fun x112 => ?_)
  refine ev_aload_n (ea_at dt_L_law__5 42 rfl) rfl ?_
  refine ev_iload (ea_at dt_L_law__5 43 rfl) rfl ?_
  refine ev_iconst (ea_at dt_L_law__5 44 rfl) ic_4 ?_
  refine ev_iadd (ea_at dt_L_law__5 45 rfl) ?_
  refine ev_script (ea_at dt_L_law__5 46 rfl) ?_
  refine ev_i (fun x113 => ?_)
  refine ev_aload_n (ea_at dt_L_law__5 47 rfl) rfl ?_
  refine ev_iload (ea_at dt_L_law__5 48 rfl) rfl ?_
  refine ev_iconst (ea_at dt_L_law__5 49 rfl) ic_5 ?_
  refine ev_iadd (ea_at dt_L_law__5 50 rfl) ?_
  refine ev_script (ea_at dt_L_law__5 51 rfl) ?_
  refine ev_i (fun x114 => ?_)
  refine ev_if_eq (tgt := 729) (ea_at dt_L_law__5 52 rfl) rfl (fun _ => ?_) (fun _ => ?_)
  · refine ev_iconst (ea_at dt_L_law__5 55 rfl) ic_0 ?_
    refine ev_wid (k' := 400 + Int32.toNatClampNeg x108) (n' := 30000 + 6 * Int32.toNatClampNeg x108) (show 400 + Int32.toNatClampNeg x108 ≤ 400 + Int32.toNatClampNeg x108 from by omega) (show 30000 + 6 * Int32.toNatClampNeg x108 ≤ 30000 + 6 * Int32.toNatClampNeg x108 from by omega) ?_
    exact ev_drop (l' := [some (.ref 2000), some (.ref 0), some (.ref 272), some (.ref 287), some (.int x108), none, none]) ⟨Or.inr rfl, Or.inr rfl, Or.inr rfl, Or.inr rfl, Or.inr rfl, Or.inl rfl, Or.inl rfl, trivial⟩ (jn_L_law__730 G x108 x110 x111 x112 x113 0 m109 hx108 hC hR hX)
  · refine ev_iconst (ea_at dt_L_law__5 53 rfl) ic_1 ?_
    refine ev_goto (tgt := 730) (ea_at dt_L_law__5 54 rfl) rfl ?_
    refine ev_wid (k' := 400 + Int32.toNatClampNeg x108) (n' := 30000 + 6 * Int32.toNatClampNeg x108) (show 400 + Int32.toNatClampNeg x108 ≤ 400 + Int32.toNatClampNeg x108 from by omega) (show 30000 + 6 * Int32.toNatClampNeg x108 ≤ 30000 + 6 * Int32.toNatClampNeg x108 from by omega) ?_
    exact ev_drop (l' := [some (.ref 2000), some (.ref 0), some (.ref 272), some (.ref 287), some (.int x108), none, none]) ⟨Or.inr rfl, Or.inr rfl, Or.inr rfl, Or.inr rfl, Or.inr rfl, Or.inl rfl, Or.inl rfl, trivial⟩ (jn_L_law__730 G x108 x110 x111 x112 x113 1 m109 hx108 hC hR hX)
set_option maxHeartbeats 300000 in
theorem jn_L_law__888 (G : ea_G) {res : ea_O}  (x157 : Int32) (m158 : ea_M) (hx157 : Int32.toNatClampNeg x157 ≤ 4000) {Φ : ((Int32 × ea_M) ⊕ ((Int32 × ea_M) ⊕ (ea_M))) → Prop} (hC : ∀ s23 : Int32 × ea_M, Φ (.inl s23) → ea_Ev G F_L_law_ res 23 [some (.ref 2000), some (.ref 0), some (.ref 272), some (.ref 287), some (.int s23.1), none, none] [] s23.2 (400 + Int32.toNatClampNeg s23.1) (30000 + 6 * Int32.toNatClampNeg s23.1)) (hR : ∀ t : Int32 × ea_M, Φ (.inr (.inl t)) → res = (0, t)) (hX : ∀ x23s : ea_M, Φ (.inr (.inr x23s)) → ea_Ev G F_L_law_ res 2851 [none, none, none, none, none, none, none] [] x23s 5000 60000) : ea_E G F_L_law_ res 888 [some (.ref 2000), some (.ref 0), some (.ref 272), some (.ref 287), some (.int x157), none, none] [] m158 (400 + Int32.toNatClampNeg x157 + 6) (30000 + 6 * Int32.toNatClampNeg x157 + 36) (f_L_law__j888 G x157 m158) Φ := by
  unfold f_L_law__j888
  refine ev_goto (tgt := 2845) (ea_at dt_L_law__7 43 rfl) rfl ?_
  refine ev_wid (k' := 400 + Int32.toNatClampNeg x157 + 6) (n' := 30000 + 6 * Int32.toNatClampNeg x157 + 36) (show 400 + Int32.toNatClampNeg x157 + 6 ≤ 400 + Int32.toNatClampNeg x157 + 6 from by omega) (show 30000 + 6 * Int32.toNatClampNeg x157 + 36 ≤ 30000 + 6 * Int32.toNatClampNeg x157 + 36 from by omega) ?_
  exact ev_drop (l' := [some (.ref 2000), some (.ref 0), some (.ref 272), some (.ref 287), some (.int x157), none, none]) ⟨Or.inr rfl, Or.inr rfl, Or.inr rfl, Or.inr rfl, Or.inr rfl, Or.inl rfl, Or.inl rfl, trivial⟩ (jn_L_law__2845 G x157 m158 hx157 hC hR hX)
set_option maxHeartbeats 300000 in
theorem jn_L_law__811 (G : ea_G) {res : ea_O}  (x143 : Int32) (m144 : ea_M) (hx143 : Int32.toNatClampNeg x143 ≤ 4000) {Φ : ((Int32 × ea_M) ⊕ ((Int32 × ea_M) ⊕ (ea_M))) → Prop} (hC : ∀ s23 : Int32 × ea_M, Φ (.inl s23) → ea_Ev G F_L_law_ res 23 [some (.ref 2000), some (.ref 0), some (.ref 272), some (.ref 287), some (.int s23.1), none, none] [] s23.2 (400 + Int32.toNatClampNeg s23.1) (30000 + 6 * Int32.toNatClampNeg s23.1)) (hR : ∀ t : Int32 × ea_M, Φ (.inr (.inl t)) → res = (0, t)) (hX : ∀ x23s : ea_M, Φ (.inr (.inr x23s)) → ea_Ev G F_L_law_ res 2851 [none, none, none, none, none, none, none] [] x23s 5000 60000) : ea_E G F_L_law_ res 811 [some (.ref 2000), some (.ref 0), some (.ref 272), some (.ref 287), some (.int x143), none, none] [] m144 (400 + Int32.toNatClampNeg x143) (30000 + 6 * Int32.toNatClampNeg x143) (f_L_law__j811 G x143 m144) Φ := by
  unfold f_L_law__j811
  refine ev_aload_n (ea_at dt_L_law__6 49 rfl) rfl ?_
  refine ev_aload_n (ea_at dt_L_law__6 50 rfl) rfl ?_
  refine ev_iload (ea_at dt_L_law__6 51 rfl) rfl ?_
  refine ev_iconst (ea_at dt_L_law__6 52 rfl) ic_1 ?_
  refine ev_iadd (ea_at dt_L_law__6 53 rfl) ?_
  refine ev_script (ea_at dt_L_law__6 54 rfl) ?_
  refine ev_i (fun x145 => ?_)
  refine ev_aload_n (ea_at dt_L_law__6 55 rfl) rfl ?_
  refine ev_iload (ea_at dt_L_law__6 56 rfl) rfl ?_
  refine ev_iconst (ea_at dt_L_law__6 57 rfl) ic_2 ?_
  refine ev_iadd (ea_at dt_L_law__6 58 rfl) ?_
  refine ev_script (ea_at dt_L_law__6 59 rfl) ?_
  refine ev_i (fun x146 => ?_)
  refine ev_aload_n (ea_at dt_L_law__7 0 rfl) rfl ?_
  refine ev_iload (ea_at dt_L_law__7 1 rfl) rfl ?_
  refine ev_iconst (ea_at dt_L_law__7 2 rfl) ic_3 ?_
  refine ev_iadd (ea_at dt_L_law__7 3 rfl) ?_
  refine ev_script (ea_at dt_L_law__7 4 rfl) ?_
  refine ev_i (fun x147 => ?_)
  refine ev_aload_n (ea_at dt_L_law__7 5 rfl) rfl ?_
  refine ev_clI (F1 := F_L_call) (fun rY mY hY => ea_runSH (As := [.ref 0, .int x145, .int x146, .int x147, .ref 287]) (ea_at dt_L_law__7 6 rfl) ml_L_176 mv_L_call (ok_L_call G x145 x146 x147 m144 rY mY hY) rfl rfl (Nat.le_of_ble_eq_true rfl) (ea_okK rfl (show 400 + Int32.toNatClampNeg x143 + 4 ≤ 601024 from by omega) (show 30000 + 6 * Int32.toNatClampNeg x143 + 24 ≤ 7293034 from by omega))) rfl (fun r149 m148 => ?_)
  refine ev_istore (ls' := [some (.ref 2000), some (.ref 0), some (.ref 272), some (.ref 287), some (.int x143), some (.int r149), none]) (ea_at dt_L_law__7 7 rfl) (ea_lt rfl) rfl ?_
  refine ev_aload_n (ea_at dt_L_law__7 8 rfl) rfl ?_
  refine ev_aload_n (ea_at dt_L_law__7 9 rfl) rfl ?_
  refine ev_iload (ea_at dt_L_law__7 10 rfl) rfl ?_
  refine ev_iconst (ea_at dt_L_law__7 11 rfl) ic_1 ?_
  refine ev_iadd (ea_at dt_L_law__7 12 rfl) ?_
  refine ev_script (ea_at dt_L_law__7 13 rfl) ?_
  refine ev_i (fun x150 => ?_)
  refine ev_aload_n (ea_at dt_L_law__7 14 rfl) rfl ?_
  refine ev_iload (ea_at dt_L_law__7 15 rfl) rfl ?_
  refine ev_iconst (ea_at dt_L_law__7 16 rfl) ic_2 ?_
  refine ev_iadd (ea_at dt_L_law__7 17 rfl) ?_
  refine ev_script (ea_at dt_L_law__7 18 rfl) ?_
  refine ev_i (fun x151 => ?_)
  refine ev_aload_n (ea_at dt_L_law__7 19 rfl) rfl ?_
  refine ev_iload (ea_at dt_L_law__7 20 rfl) rfl ?_
  refine ev_iconst (ea_at dt_L_law__7 21 rfl) ic_3 ?_
  refine ev_iadd (ea_at dt_L_law__7 22 rfl) ?_
  refine ev_script (ea_at dt_L_law__7 23 rfl) ?_
  refine ev_i (fun x152 => ?_)
  refine ev_clI (F1 := F_X12_call) (fun rY mY hY => ea_runV (As := [.int x150, .int x151, .int x152]) (ea_at dt_L_law__7 24 rfl) ml_L_179 mv_X12_call (ok_X12_call G x150 x151 x152 m148 rY mY hY) sh_272 rfl rfl rfl (Nat.le_of_ble_eq_true rfl) (ea_okK rfl (show 400 + Int32.toNatClampNeg x143 + 4 + 0 ≤ 601024 from by omega) (show 30000 + 6 * Int32.toNatClampNeg x143 + 24 + 0 ≤ 7293034 from by omega))) rfl (fun r154 m153 => ?_)
  refine ev_istore (ls' := [some (.ref 2000), some (.ref 0), some (.ref 272), some (.ref 287), some (.int x143), some (.int r149), some (.int r154)]) (ea_at dt_L_law__7 25 rfl) (ea_lt rfl) rfl ?_
  refine ev_aload_n (ea_at dt_L_law__7 26 rfl) rfl ?_
  refine ev_clI (F1 := F_X12_thrown) (fun rY mY hY => ea_runV (As := []) (ea_at dt_L_law__7 27 rfl) ml_L_148 mv_X12_thrown (ok_X12_thrown G m153 rY mY hY) sh_272 rfl rfl rfl (Nat.le_of_ble_eq_true rfl) (ea_okK rfl (show 400 + Int32.toNatClampNeg x143 + 4 + 0 + 0 ≤ 601024 from by omega) (show 30000 + 6 * Int32.toNatClampNeg x143 + 24 + 0 + 0 ≤ 7293034 from by omega))) rfl (fun r156 m155 => ?_)
  refine ev_iload (ea_at dt_L_law__7 28 rfl) rfl ?_
  refine ev_icmp_eq (tgt := 871) (ea_at dt_L_law__7 29 rfl) rfl (fun _ => ?_) (fun _ => ?_)
  · refine ev_iload (ea_at dt_L_law__7 32 rfl) rfl ?_
    refine ev_if_ne (tgt := 888) (ea_at dt_L_law__7 33 rfl) rfl (fun _ => ?_) (fun _ => ?_)
    · refine ev_aload_n (ea_at dt_L_law__7 34 rfl) rfl ?_
      refine ev_iconst (ea_at dt_L_law__7 35 rfl) ic_0 ?_
      refine ev_laloadC (j := 0) (ea_at dt_L_law__7 36 rfl) sh_287 (by decide) (by decide) (by decide) ?_
      refine ev_iload (ea_at dt_L_law__7 37 rfl) rfl ?_
      refine ev_i2l (ea_at dt_L_law__7 38 rfl) ?_
      refine ev_lcmp (ea_at dt_L_law__7 39 rfl) ?_
      refine ev_if_eq (tgt := 888) (ea_at dt_L_law__7 40 rfl) rfl (fun _ => ?_) (fun _ => ?_)
      · refine ev_wid (k' := 400 + Int32.toNatClampNeg x143 + 6) (n' := 30000 + 6 * Int32.toNatClampNeg x143 + 36) (show 400 + Int32.toNatClampNeg x143 + 4 + 0 + 0 ≤ 400 + Int32.toNatClampNeg x143 + 6 from by omega) (show 30000 + 6 * Int32.toNatClampNeg x143 + 24 + 0 + 0 ≤ 30000 + 6 * Int32.toNatClampNeg x143 + 36 from by omega) ?_
        exact ev_drop (l' := [some (.ref 2000), some (.ref 0), some (.ref 272), some (.ref 287), some (.int x143), none, none]) ⟨Or.inr rfl, Or.inr rfl, Or.inr rfl, Or.inr rfl, Or.inr rfl, Or.inl rfl, Or.inl rfl, trivial⟩ (jn_L_law__888 G x143 m155 hx143 hC hR hX)
      · refine ev_iconst (ea_at dt_L_law__7 41 rfl) ic_0 ?_
        exact ev_zret (by decide) (ea_at dt_L_law__7 42 rfl) rfl ⟨show 400 + Int32.toNatClampNeg x143 + 4 + 0 + 0 ≤ 601024 from by omega, show 30000 + 6 * Int32.toNatClampNeg x143 + 24 + 0 + 0 ≤ 7293034 from by omega⟩ (fun h => hR _ h)
    · refine ev_wid (k' := 400 + Int32.toNatClampNeg x143 + 6) (n' := 30000 + 6 * Int32.toNatClampNeg x143 + 36) (show 400 + Int32.toNatClampNeg x143 + 4 + 0 + 0 ≤ 400 + Int32.toNatClampNeg x143 + 6 from by omega) (show 30000 + 6 * Int32.toNatClampNeg x143 + 24 + 0 + 0 ≤ 30000 + 6 * Int32.toNatClampNeg x143 + 36 from by omega) ?_
      exact ev_drop (l' := [some (.ref 2000), some (.ref 0), some (.ref 272), some (.ref 287), some (.int x143), none, none]) ⟨Or.inr rfl, Or.inr rfl, Or.inr rfl, Or.inr rfl, Or.inr rfl, Or.inl rfl, Or.inl rfl, trivial⟩ (jn_L_law__888 G x143 m155 hx143 hC hR hX)
  · refine ev_iconst (ea_at dt_L_law__7 30 rfl) ic_0 ?_
    exact ev_zret (by decide) (ea_at dt_L_law__7 31 rfl) rfl ⟨show 400 + Int32.toNatClampNeg x143 + 4 + 0 + 0 ≤ 601024 from by omega, show 30000 + 6 * Int32.toNatClampNeg x143 + 24 + 0 + 0 ≤ 7293034 from by omega⟩ (fun h => hR _ h)
set_option maxHeartbeats 300000 in
theorem jn_L_law__944 (G : ea_G) {res : ea_O}  (x169 : Int32) (m170 : ea_M) (hx169 : Int32.toNatClampNeg x169 ≤ 4000) {Φ : ((Int32 × ea_M) ⊕ ((Int32 × ea_M) ⊕ (ea_M))) → Prop} (hC : ∀ s23 : Int32 × ea_M, Φ (.inl s23) → ea_Ev G F_L_law_ res 23 [some (.ref 2000), some (.ref 0), some (.ref 272), some (.ref 287), some (.int s23.1), none, none] [] s23.2 (400 + Int32.toNatClampNeg s23.1) (30000 + 6 * Int32.toNatClampNeg s23.1)) (hR : ∀ t : Int32 × ea_M, Φ (.inr (.inl t)) → res = (0, t)) (hX : ∀ x23s : ea_M, Φ (.inr (.inr x23s)) → ea_Ev G F_L_law_ res 2851 [none, none, none, none, none, none, none] [] x23s 5000 60000) : ea_E G F_L_law_ res 944 [some (.ref 2000), some (.ref 0), some (.ref 272), some (.ref 287), some (.int x169), none, none] [] m170 (400 + Int32.toNatClampNeg x169 + 6) (30000 + 6 * Int32.toNatClampNeg x169 + 36) (f_L_law__j944 G x169 m170) Φ := by
  unfold f_L_law__j944
  refine ev_goto (tgt := 2845) (ea_at dt_L_law__8 18 rfl) rfl ?_
  refine ev_wid (k' := 400 + Int32.toNatClampNeg x169 + 6) (n' := 30000 + 6 * Int32.toNatClampNeg x169 + 36) (show 400 + Int32.toNatClampNeg x169 + 6 ≤ 400 + Int32.toNatClampNeg x169 + 6 from by omega) (show 30000 + 6 * Int32.toNatClampNeg x169 + 36 ≤ 30000 + 6 * Int32.toNatClampNeg x169 + 36 from by omega) ?_
  exact ev_drop (l' := [some (.ref 2000), some (.ref 0), some (.ref 272), some (.ref 287), some (.int x169), none, none]) ⟨Or.inr rfl, Or.inr rfl, Or.inr rfl, Or.inr rfl, Or.inr rfl, Or.inl rfl, Or.inl rfl, trivial⟩ (jn_L_law__2845 G x169 m170 hx169 hC hR hX)
set_option maxHeartbeats 300000 in
theorem jn_L_law__891 (G : ea_G) {res : ea_O}  (x159 : Int32) (m160 : ea_M) (hx159 : Int32.toNatClampNeg x159 ≤ 4000) {Φ : ((Int32 × ea_M) ⊕ ((Int32 × ea_M) ⊕ (ea_M))) → Prop} (hC : ∀ s23 : Int32 × ea_M, Φ (.inl s23) → ea_Ev G F_L_law_ res 23 [some (.ref 2000), some (.ref 0), some (.ref 272), some (.ref 287), some (.int s23.1), none, none] [] s23.2 (400 + Int32.toNatClampNeg s23.1) (30000 + 6 * Int32.toNatClampNeg s23.1)) (hR : ∀ t : Int32 × ea_M, Φ (.inr (.inl t)) → res = (0, t)) (hX : ∀ x23s : ea_M, Φ (.inr (.inr x23s)) → ea_Ev G F_L_law_ res 2851 [none, none, none, none, none, none, none] [] x23s 5000 60000) : ea_E G F_L_law_ res 891 [some (.ref 2000), some (.ref 0), some (.ref 272), some (.ref 287), some (.int x159), none, none] [] m160 (400 + Int32.toNatClampNeg x159) (30000 + 6 * Int32.toNatClampNeg x159) (f_L_law__j891 G x159 m160) Φ := by
  unfold f_L_law__j891
  refine ev_aload_n (ea_at dt_L_law__7 44 rfl) rfl ?_
  refine ev_aload_n (ea_at dt_L_law__7 45 rfl) rfl ?_
  refine ev_iload (ea_at dt_L_law__7 46 rfl) rfl ?_
  refine ev_iconst (ea_at dt_L_law__7 47 rfl) ic_1 ?_
  refine ev_iadd (ea_at dt_L_law__7 48 rfl) ?_
  refine ev_script (ea_at dt_L_law__7 49 rfl) ?_
  refine ev_i (fun x161 => ?_)
  refine ev_aload_n (ea_at dt_L_law__7 50 rfl) rfl ?_
  refine ev_clI (F1 := F_L_hour) (fun rY mY hY => ea_runSH (As := [.ref 0, .int x161, .ref 287]) (ea_at dt_L_law__7 51 rfl) ml_L_180 mv_L_hour (ok_L_hour G x161 m160 rY mY hY) rfl rfl (Nat.le_of_ble_eq_true rfl) (ea_okK rfl (show 400 + Int32.toNatClampNeg x159 + 1 ≤ 601024 from by omega) (show 30000 + 6 * Int32.toNatClampNeg x159 + 6 ≤ 7293034 from by omega))) rfl (fun r163 m162 => ?_)
  refine ev_istore (ls' := [some (.ref 2000), some (.ref 0), some (.ref 272), some (.ref 287), some (.int x159), some (.int r163), none]) (ea_at dt_L_law__7 52 rfl) (ea_lt rfl) rfl ?_
  refine ev_aload_n (ea_at dt_L_law__7 53 rfl) rfl ?_
  refine ev_aload_n (ea_at dt_L_law__7 54 rfl) rfl ?_
  refine ev_iload (ea_at dt_L_law__7 55 rfl) rfl ?_
  refine ev_iconst (ea_at dt_L_law__7 56 rfl) ic_1 ?_
  refine ev_iadd (ea_at dt_L_law__7 57 rfl) ?_
  refine ev_script (ea_at dt_L_law__7 58 rfl) ?_
  refine ev_i (fun x164 => ?_)
  refine ev_clI (F1 := F_X12_hour) (fun rY mY hY => ea_runV (As := [.int x164]) (ea_at dt_L_law__7 59 rfl) ml_L_182 mv_X12_hour (ok_X12_hour G x164 m162 rY mY hY) sh_272 rfl rfl rfl (Nat.le_of_ble_eq_true rfl) (ea_okK rfl (show 400 + Int32.toNatClampNeg x159 + 1 + 0 ≤ 601024 from by omega) (show 30000 + 6 * Int32.toNatClampNeg x159 + 6 + 0 ≤ 7293034 from by omega))) rfl (fun r166 m165 => ?_)
  refine ev_istore (ls' := [some (.ref 2000), some (.ref 0), some (.ref 272), some (.ref 287), some (.int x159), some (.int r163), some (.int r166)]) (ea_at dt_L_law__8 0 rfl) (ea_lt rfl) rfl ?_
  refine ev_aload_n (ea_at dt_L_law__8 1 rfl) rfl ?_
  refine ev_clI (F1 := F_X12_thrown) (fun rY mY hY => ea_runV (As := []) (ea_at dt_L_law__8 2 rfl) ml_L_148 mv_X12_thrown (ok_X12_thrown G m165 rY mY hY) sh_272 rfl rfl rfl (Nat.le_of_ble_eq_true rfl) (ea_okK rfl (show 400 + Int32.toNatClampNeg x159 + 1 + 0 + 0 ≤ 601024 from by omega) (show 30000 + 6 * Int32.toNatClampNeg x159 + 6 + 0 + 0 ≤ 7293034 from by omega))) rfl (fun r168 m167 => ?_)
  refine ev_iload (ea_at dt_L_law__8 3 rfl) rfl ?_
  refine ev_icmp_eq (tgt := 927) (ea_at dt_L_law__8 4 rfl) rfl (fun _ => ?_) (fun _ => ?_)
  · refine ev_iload (ea_at dt_L_law__8 7 rfl) rfl ?_
    refine ev_if_ne (tgt := 944) (ea_at dt_L_law__8 8 rfl) rfl (fun _ => ?_) (fun _ => ?_)
    · refine ev_aload_n (ea_at dt_L_law__8 9 rfl) rfl ?_
      refine ev_iconst (ea_at dt_L_law__8 10 rfl) ic_0 ?_
      refine ev_laloadC (j := 0) (ea_at dt_L_law__8 11 rfl) sh_287 (by decide) (by decide) (by decide) ?_
      refine ev_iload (ea_at dt_L_law__8 12 rfl) rfl ?_
      refine ev_i2l (ea_at dt_L_law__8 13 rfl) ?_
      refine ev_lcmp (ea_at dt_L_law__8 14 rfl) ?_
      refine ev_if_eq (tgt := 944) (ea_at dt_L_law__8 15 rfl) rfl (fun _ => ?_) (fun _ => ?_)
      · refine ev_wid (k' := 400 + Int32.toNatClampNeg x159 + 6) (n' := 30000 + 6 * Int32.toNatClampNeg x159 + 36) (show 400 + Int32.toNatClampNeg x159 + 1 + 0 + 0 ≤ 400 + Int32.toNatClampNeg x159 + 6 from by omega) (show 30000 + 6 * Int32.toNatClampNeg x159 + 6 + 0 + 0 ≤ 30000 + 6 * Int32.toNatClampNeg x159 + 36 from by omega) ?_
        exact ev_drop (l' := [some (.ref 2000), some (.ref 0), some (.ref 272), some (.ref 287), some (.int x159), none, none]) ⟨Or.inr rfl, Or.inr rfl, Or.inr rfl, Or.inr rfl, Or.inr rfl, Or.inl rfl, Or.inl rfl, trivial⟩ (jn_L_law__944 G x159 m167 hx159 hC hR hX)
      · refine ev_iconst (ea_at dt_L_law__8 16 rfl) ic_0 ?_
        exact ev_zret (by decide) (ea_at dt_L_law__8 17 rfl) rfl ⟨show 400 + Int32.toNatClampNeg x159 + 1 + 0 + 0 ≤ 601024 from by omega, show 30000 + 6 * Int32.toNatClampNeg x159 + 6 + 0 + 0 ≤ 7293034 from by omega⟩ (fun h => hR _ h)
    · refine ev_wid (k' := 400 + Int32.toNatClampNeg x159 + 6) (n' := 30000 + 6 * Int32.toNatClampNeg x159 + 36) (show 400 + Int32.toNatClampNeg x159 + 1 + 0 + 0 ≤ 400 + Int32.toNatClampNeg x159 + 6 from by omega) (show 30000 + 6 * Int32.toNatClampNeg x159 + 6 + 0 + 0 ≤ 30000 + 6 * Int32.toNatClampNeg x159 + 36 from by omega) ?_
      exact ev_drop (l' := [some (.ref 2000), some (.ref 0), some (.ref 272), some (.ref 287), some (.int x159), none, none]) ⟨Or.inr rfl, Or.inr rfl, Or.inr rfl, Or.inr rfl, Or.inr rfl, Or.inl rfl, Or.inl rfl, trivial⟩ (jn_L_law__944 G x159 m167 hx159 hC hR hX)
  · refine ev_iconst (ea_at dt_L_law__8 5 rfl) ic_0 ?_
    exact ev_zret (by decide) (ea_at dt_L_law__8 6 rfl) rfl ⟨show 400 + Int32.toNatClampNeg x159 + 1 + 0 + 0 ≤ 601024 from by omega, show 30000 + 6 * Int32.toNatClampNeg x159 + 6 + 0 + 0 ≤ 7293034 from by omega⟩ (fun h => hR _ h)
set_option maxHeartbeats 300000 in
theorem jn_L_law__1012 (G : ea_G) {res : ea_O}  (x183 : Int32) (m184 : ea_M) (hx183 : Int32.toNatClampNeg x183 ≤ 4000) {Φ : ((Int32 × ea_M) ⊕ ((Int32 × ea_M) ⊕ (ea_M))) → Prop} (hC : ∀ s23 : Int32 × ea_M, Φ (.inl s23) → ea_Ev G F_L_law_ res 23 [some (.ref 2000), some (.ref 0), some (.ref 272), some (.ref 287), some (.int s23.1), none, none] [] s23.2 (400 + Int32.toNatClampNeg s23.1) (30000 + 6 * Int32.toNatClampNeg s23.1)) (hR : ∀ t : Int32 × ea_M, Φ (.inr (.inl t)) → res = (0, t)) (hX : ∀ x23s : ea_M, Φ (.inr (.inr x23s)) → ea_Ev G F_L_law_ res 2851 [none, none, none, none, none, none, none] [] x23s 5000 60000) : ea_E G F_L_law_ res 1012 [some (.ref 2000), some (.ref 0), some (.ref 272), some (.ref 287), some (.int x183), none, none] [] m184 (400 + Int32.toNatClampNeg x183 + 6) (30000 + 6 * Int32.toNatClampNeg x183 + 36) (f_L_law__j1012 G x183 m184) Φ := by
  unfold f_L_law__j1012
  refine ev_goto (tgt := 2845) (ea_at dt_L_law__9 3 rfl) rfl ?_
  refine ev_wid (k' := 400 + Int32.toNatClampNeg x183 + 6) (n' := 30000 + 6 * Int32.toNatClampNeg x183 + 36) (show 400 + Int32.toNatClampNeg x183 + 6 ≤ 400 + Int32.toNatClampNeg x183 + 6 from by omega) (show 30000 + 6 * Int32.toNatClampNeg x183 + 36 ≤ 30000 + 6 * Int32.toNatClampNeg x183 + 36 from by omega) ?_
  exact ev_drop (l' := [some (.ref 2000), some (.ref 0), some (.ref 272), some (.ref 287), some (.int x183), none, none]) ⟨Or.inr rfl, Or.inr rfl, Or.inr rfl, Or.inr rfl, Or.inr rfl, Or.inl rfl, Or.inl rfl, trivial⟩ (jn_L_law__2845 G x183 m184 hx183 hC hR hX)
set_option maxHeartbeats 300000 in
theorem jn_L_law__947 (G : ea_G) {res : ea_O}  (x171 : Int32) (m172 : ea_M) (hx171 : Int32.toNatClampNeg x171 ≤ 4000) {Φ : ((Int32 × ea_M) ⊕ ((Int32 × ea_M) ⊕ (ea_M))) → Prop} (hC : ∀ s23 : Int32 × ea_M, Φ (.inl s23) → ea_Ev G F_L_law_ res 23 [some (.ref 2000), some (.ref 0), some (.ref 272), some (.ref 287), some (.int s23.1), none, none] [] s23.2 (400 + Int32.toNatClampNeg s23.1) (30000 + 6 * Int32.toNatClampNeg s23.1)) (hR : ∀ t : Int32 × ea_M, Φ (.inr (.inl t)) → res = (0, t)) (hX : ∀ x23s : ea_M, Φ (.inr (.inr x23s)) → ea_Ev G F_L_law_ res 2851 [none, none, none, none, none, none, none] [] x23s 5000 60000) : ea_E G F_L_law_ res 947 [some (.ref 2000), some (.ref 0), some (.ref 272), some (.ref 287), some (.int x171), none, none] [] m172 (400 + Int32.toNatClampNeg x171) (30000 + 6 * Int32.toNatClampNeg x171) (f_L_law__j947 G x171 m172) Φ := by
  unfold f_L_law__j947
  refine ev_aload_n (ea_at dt_L_law__8 19 rfl) rfl ?_
  refine ev_aload_n (ea_at dt_L_law__8 20 rfl) rfl ?_
  refine ev_iload (ea_at dt_L_law__8 21 rfl) rfl ?_
  refine ev_iconst (ea_at dt_L_law__8 22 rfl) ic_1 ?_
  refine ev_iadd (ea_at dt_L_law__8 23 rfl) ?_
  refine ev_script (ea_at dt_L_law__8 24 rfl) ?_
  refine ev_i (fun x173 => ?_)
  refine ev_aload_n (ea_at dt_L_law__8 25 rfl) rfl ?_
  refine ev_iload (ea_at dt_L_law__8 26 rfl) rfl ?_
  refine ev_iconst (ea_at dt_L_law__8 27 rfl) ic_2 ?_
  refine ev_iadd (ea_at dt_L_law__8 28 rfl) ?_
  refine ev_script (ea_at dt_L_law__8 29 rfl) ?_
  refine ev_i (fun x174 => ?_)
  refine ev_aload_n (ea_at dt_L_law__8 30 rfl) rfl ?_
  refine ev_clI (F1 := F_L_blow) (fun rY mY hY => ea_runSH (As := [.ref 0, .int x173, .int x174, .ref 287]) (ea_at dt_L_law__8 31 rfl) ml_L_183 mv_L_blow (ok_L_blow G x173 x174 m172 rY mY hY) rfl rfl (Nat.le_of_ble_eq_true rfl) (ea_okK rfl (show 400 + Int32.toNatClampNeg x171 + 2 ≤ 601024 from by omega) (show 30000 + 6 * Int32.toNatClampNeg x171 + 12 ≤ 7293034 from by omega))) rfl (fun r176 m175 => ?_)
  refine ev_istore (ls' := [some (.ref 2000), some (.ref 0), some (.ref 272), some (.ref 287), some (.int x171), some (.int r176), none]) (ea_at dt_L_law__8 32 rfl) (ea_lt rfl) rfl ?_
  refine ev_aload_n (ea_at dt_L_law__8 33 rfl) rfl ?_
  refine ev_aload_n (ea_at dt_L_law__8 34 rfl) rfl ?_
  refine ev_iload (ea_at dt_L_law__8 35 rfl) rfl ?_
  refine ev_iconst (ea_at dt_L_law__8 36 rfl) ic_1 ?_
  refine ev_iadd (ea_at dt_L_law__8 37 rfl) ?_
  refine ev_script (ea_at dt_L_law__8 38 rfl) ?_
  refine ev_i (fun x177 => ?_)
  refine ev_aload_n (ea_at dt_L_law__8 39 rfl) rfl ?_
  refine ev_iload (ea_at dt_L_law__8 40 rfl) rfl ?_
  refine ev_iconst (ea_at dt_L_law__8 41 rfl) ic_2 ?_
  refine ev_iadd (ea_at dt_L_law__8 42 rfl) ?_
  refine ev_script (ea_at dt_L_law__8 43 rfl) ?_
  refine ev_i (fun x178 => ?_)
  refine ev_clI (F1 := F_X12_blow) (fun rY mY hY => ea_runV (As := [.int x177, .int x178]) (ea_at dt_L_law__8 44 rfl) ml_L_185 mv_X12_blow (ok_X12_blow G x177 x178 m175 rY mY hY) sh_272 rfl rfl rfl (Nat.le_of_ble_eq_true rfl) (ea_okK rfl (show 400 + Int32.toNatClampNeg x171 + 2 + 0 ≤ 601024 from by omega) (show 30000 + 6 * Int32.toNatClampNeg x171 + 12 + 0 ≤ 7293034 from by omega))) rfl (fun r180 m179 => ?_)
  refine ev_istore (ls' := [some (.ref 2000), some (.ref 0), some (.ref 272), some (.ref 287), some (.int x171), some (.int r176), some (.int r180)]) (ea_at dt_L_law__8 45 rfl) (ea_lt rfl) rfl ?_
  refine ev_aload_n (ea_at dt_L_law__8 46 rfl) rfl ?_
  refine ev_clI (F1 := F_X12_thrown) (fun rY mY hY => ea_runV (As := []) (ea_at dt_L_law__8 47 rfl) ml_L_148 mv_X12_thrown (ok_X12_thrown G m179 rY mY hY) sh_272 rfl rfl rfl (Nat.le_of_ble_eq_true rfl) (ea_okK rfl (show 400 + Int32.toNatClampNeg x171 + 2 + 0 + 0 ≤ 601024 from by omega) (show 30000 + 6 * Int32.toNatClampNeg x171 + 12 + 0 + 0 ≤ 7293034 from by omega))) rfl (fun r182 m181 => ?_)
  refine ev_iload (ea_at dt_L_law__8 48 rfl) rfl ?_
  refine ev_icmp_eq (tgt := 995) (ea_at dt_L_law__8 49 rfl) rfl (fun _ => ?_) (fun _ => ?_)
  · refine ev_iload (ea_at dt_L_law__8 52 rfl) rfl ?_
    refine ev_if_ne (tgt := 1012) (ea_at dt_L_law__8 53 rfl) rfl (fun _ => ?_) (fun _ => ?_)
    · refine ev_aload_n (ea_at dt_L_law__8 54 rfl) rfl ?_
      refine ev_iconst (ea_at dt_L_law__8 55 rfl) ic_0 ?_
      refine ev_laloadC (j := 0) (ea_at dt_L_law__8 56 rfl) sh_287 (by decide) (by decide) (by decide) ?_
      refine ev_iload (ea_at dt_L_law__8 57 rfl) rfl ?_
      refine ev_i2l (ea_at dt_L_law__8 58 rfl) ?_
      refine ev_lcmp (ea_at dt_L_law__8 59 rfl) ?_
      refine ev_if_eq (tgt := 1012) (ea_at dt_L_law__9 0 rfl) rfl (fun _ => ?_) (fun _ => ?_)
      · refine ev_wid (k' := 400 + Int32.toNatClampNeg x171 + 6) (n' := 30000 + 6 * Int32.toNatClampNeg x171 + 36) (show 400 + Int32.toNatClampNeg x171 + 2 + 0 + 0 ≤ 400 + Int32.toNatClampNeg x171 + 6 from by omega) (show 30000 + 6 * Int32.toNatClampNeg x171 + 12 + 0 + 0 ≤ 30000 + 6 * Int32.toNatClampNeg x171 + 36 from by omega) ?_
        exact ev_drop (l' := [some (.ref 2000), some (.ref 0), some (.ref 272), some (.ref 287), some (.int x171), none, none]) ⟨Or.inr rfl, Or.inr rfl, Or.inr rfl, Or.inr rfl, Or.inr rfl, Or.inl rfl, Or.inl rfl, trivial⟩ (jn_L_law__1012 G x171 m181 hx171 hC hR hX)
      · refine ev_iconst (ea_at dt_L_law__9 1 rfl) ic_0 ?_
        exact ev_zret (by decide) (ea_at dt_L_law__9 2 rfl) rfl ⟨show 400 + Int32.toNatClampNeg x171 + 2 + 0 + 0 ≤ 601024 from by omega, show 30000 + 6 * Int32.toNatClampNeg x171 + 12 + 0 + 0 ≤ 7293034 from by omega⟩ (fun h => hR _ h)
    · refine ev_wid (k' := 400 + Int32.toNatClampNeg x171 + 6) (n' := 30000 + 6 * Int32.toNatClampNeg x171 + 36) (show 400 + Int32.toNatClampNeg x171 + 2 + 0 + 0 ≤ 400 + Int32.toNatClampNeg x171 + 6 from by omega) (show 30000 + 6 * Int32.toNatClampNeg x171 + 12 + 0 + 0 ≤ 30000 + 6 * Int32.toNatClampNeg x171 + 36 from by omega) ?_
      exact ev_drop (l' := [some (.ref 2000), some (.ref 0), some (.ref 272), some (.ref 287), some (.int x171), none, none]) ⟨Or.inr rfl, Or.inr rfl, Or.inr rfl, Or.inr rfl, Or.inr rfl, Or.inl rfl, Or.inl rfl, trivial⟩ (jn_L_law__1012 G x171 m181 hx171 hC hR hX)
  · refine ev_iconst (ea_at dt_L_law__8 50 rfl) ic_0 ?_
    exact ev_zret (by decide) (ea_at dt_L_law__8 51 rfl) rfl ⟨show 400 + Int32.toNatClampNeg x171 + 2 + 0 + 0 ≤ 601024 from by omega, show 30000 + 6 * Int32.toNatClampNeg x171 + 12 + 0 + 0 ≤ 7293034 from by omega⟩ (fun h => hR _ h)
set_option maxHeartbeats 300000 in
theorem jn_L_law__1104 (G : ea_G) {res : ea_O}  (x201 : Int32) (m202 : ea_M) (hx201 : Int32.toNatClampNeg x201 ≤ 4000) {Φ : ((Int32 × ea_M) ⊕ ((Int32 × ea_M) ⊕ (ea_M))) → Prop} (hC : ∀ s23 : Int32 × ea_M, Φ (.inl s23) → ea_Ev G F_L_law_ res 23 [some (.ref 2000), some (.ref 0), some (.ref 272), some (.ref 287), some (.int s23.1), none, none] [] s23.2 (400 + Int32.toNatClampNeg s23.1) (30000 + 6 * Int32.toNatClampNeg s23.1)) (hR : ∀ t : Int32 × ea_M, Φ (.inr (.inl t)) → res = (0, t)) (hX : ∀ x23s : ea_M, Φ (.inr (.inr x23s)) → ea_Ev G F_L_law_ res 2851 [none, none, none, none, none, none, none] [] x23s 5000 60000) : ea_E G F_L_law_ res 1104 [some (.ref 2000), some (.ref 0), some (.ref 272), some (.ref 287), some (.int x201), none, none] [] m202 (400 + Int32.toNatClampNeg x201 + 6) (30000 + 6 * Int32.toNatClampNeg x201 + 36) (f_L_law__j1104 G x201 m202) Φ := by
  unfold f_L_law__j1104
  refine ev_goto (tgt := 2845) (ea_at dt_L_law__10 8 rfl) rfl ?_
  refine ev_wid (k' := 400 + Int32.toNatClampNeg x201 + 6) (n' := 30000 + 6 * Int32.toNatClampNeg x201 + 36) (show 400 + Int32.toNatClampNeg x201 + 6 ≤ 400 + Int32.toNatClampNeg x201 + 6 from by omega) (show 30000 + 6 * Int32.toNatClampNeg x201 + 36 ≤ 30000 + 6 * Int32.toNatClampNeg x201 + 36 from by omega) ?_
  exact ev_drop (l' := [some (.ref 2000), some (.ref 0), some (.ref 272), some (.ref 287), some (.int x201), none, none]) ⟨Or.inr rfl, Or.inr rfl, Or.inr rfl, Or.inr rfl, Or.inr rfl, Or.inl rfl, Or.inl rfl, trivial⟩ (jn_L_law__2845 G x201 m202 hx201 hC hR hX)
set_option maxHeartbeats 300000 in
theorem jn_L_law__1015 (G : ea_G) {res : ea_O}  (x185 : Int32) (m186 : ea_M) (hx185 : Int32.toNatClampNeg x185 ≤ 4000) {Φ : ((Int32 × ea_M) ⊕ ((Int32 × ea_M) ⊕ (ea_M))) → Prop} (hC : ∀ s23 : Int32 × ea_M, Φ (.inl s23) → ea_Ev G F_L_law_ res 23 [some (.ref 2000), some (.ref 0), some (.ref 272), some (.ref 287), some (.int s23.1), none, none] [] s23.2 (400 + Int32.toNatClampNeg s23.1) (30000 + 6 * Int32.toNatClampNeg s23.1)) (hR : ∀ t : Int32 × ea_M, Φ (.inr (.inl t)) → res = (0, t)) (hX : ∀ x23s : ea_M, Φ (.inr (.inr x23s)) → ea_Ev G F_L_law_ res 2851 [none, none, none, none, none, none, none] [] x23s 5000 60000) : ea_E G F_L_law_ res 1015 [some (.ref 2000), some (.ref 0), some (.ref 272), some (.ref 287), some (.int x185), none, none] [] m186 (400 + Int32.toNatClampNeg x185) (30000 + 6 * Int32.toNatClampNeg x185) (f_L_law__j1015 G x185 m186) Φ := by
  unfold f_L_law__j1015
  refine ev_aload_n (ea_at dt_L_law__9 4 rfl) rfl ?_
  refine ev_aload_n (ea_at dt_L_law__9 5 rfl) rfl ?_
  refine ev_iload (ea_at dt_L_law__9 6 rfl) rfl ?_
  refine ev_iconst (ea_at dt_L_law__9 7 rfl) ic_1 ?_
  refine ev_iadd (ea_at dt_L_law__9 8 rfl) ?_
  refine ev_script (ea_at dt_L_law__9 9 rfl) ?_
  refine ev_i (fun x187 => ?_)
  refine ev_aload_n (ea_at dt_L_law__9 10 rfl) rfl ?_
  refine ev_iload (ea_at dt_L_law__9 11 rfl) rfl ?_
  refine ev_iconst (ea_at dt_L_law__9 12 rfl) ic_2 ?_
  refine ev_iadd (ea_at dt_L_law__9 13 rfl) ?_
  refine ev_script (ea_at dt_L_law__9 14 rfl) ?_
  refine ev_i (fun x188 => ?_)
  refine ev_aload_n (ea_at dt_L_law__9 15 rfl) rfl ?_
  refine ev_iload (ea_at dt_L_law__9 16 rfl) rfl ?_
  refine ev_iconst (ea_at dt_L_law__9 17 rfl) ic_3 ?_
  refine ev_iadd (ea_at dt_L_law__9 18 rfl) ?_
  refine ev_script (ea_at dt_L_law__9 19 rfl) ?_
  refine ev_i (fun x189 => ?_)
  refine ev_aload_n (ea_at dt_L_law__9 20 rfl) rfl ?_
  refine ev_iload (ea_at dt_L_law__9 21 rfl) rfl ?_
  refine ev_iconst (ea_at dt_L_law__9 22 rfl) ic_4 ?_
  refine ev_iadd (ea_at dt_L_law__9 23 rfl) ?_
  refine ev_script (ea_at dt_L_law__9 24 rfl) ?_
  refine ev_i (fun x190 => ?_)
  refine ev_aload_n (ea_at dt_L_law__9 25 rfl) rfl ?_
  refine ev_clI (F1 := F_L_give) (fun rY mY hY => ea_runSH (As := [.ref 0, .int x187, .int x188, .int x189, .int x190, .ref 287]) (ea_at dt_L_law__9 26 rfl) ml_L_186 mv_L_give (ok_L_give G x187 x188 x189 x190 m186 rY mY hY) rfl rfl (Nat.le_of_ble_eq_true rfl) (ea_okK rfl (show 400 + Int32.toNatClampNeg x185 + 5 ≤ 601024 from by omega) (show 30000 + 6 * Int32.toNatClampNeg x185 + 30 ≤ 7293034 from by omega))) rfl (fun r192 m191 => ?_)
  refine ev_istore (ls' := [some (.ref 2000), some (.ref 0), some (.ref 272), some (.ref 287), some (.int x185), some (.int r192), none]) (ea_at dt_L_law__9 27 rfl) (ea_lt rfl) rfl ?_
  refine ev_aload_n (ea_at dt_L_law__9 28 rfl) rfl ?_
  refine ev_aload_n (ea_at dt_L_law__9 29 rfl) rfl ?_
  refine ev_iload (ea_at dt_L_law__9 30 rfl) rfl ?_
  refine ev_iconst (ea_at dt_L_law__9 31 rfl) ic_1 ?_
  refine ev_iadd (ea_at dt_L_law__9 32 rfl) ?_
  refine ev_script (ea_at dt_L_law__9 33 rfl) ?_
  refine ev_i (fun x193 => ?_)
  refine ev_aload_n (ea_at dt_L_law__9 34 rfl) rfl ?_
  refine ev_iload (ea_at dt_L_law__9 35 rfl) rfl ?_
  refine ev_iconst (ea_at dt_L_law__9 36 rfl) ic_2 ?_
  refine ev_iadd (ea_at dt_L_law__9 37 rfl) ?_
  refine ev_script (ea_at dt_L_law__9 38 rfl) ?_
  refine ev_i (fun x194 => ?_)
  refine ev_aload_n (ea_at dt_L_law__9 39 rfl) rfl ?_
  refine ev_iload (ea_at dt_L_law__9 40 rfl) rfl ?_
  refine ev_iconst (ea_at dt_L_law__9 41 rfl) ic_3 ?_
  refine ev_iadd (ea_at dt_L_law__9 42 rfl) ?_
  refine ev_script (ea_at dt_L_law__9 43 rfl) ?_
  refine ev_i (fun x195 => ?_)
  refine ev_aload_n (ea_at dt_L_law__9 44 rfl) rfl ?_
  refine ev_iload (ea_at dt_L_law__9 45 rfl) rfl ?_
  refine ev_iconst (ea_at dt_L_law__9 46 rfl) ic_4 ?_
  refine ev_iadd (ea_at dt_L_law__9 47 rfl) ?_
  refine ev_script (ea_at dt_L_law__9 48 rfl) ?_
  refine ev_i (fun x196 => ?_)
  refine ev_clI (F1 := F_X12_give) (fun rY mY hY => ea_runV (As := [.int x193, .int x194, .int x195, .int x196]) (ea_at dt_L_law__9 49 rfl) ml_L_189 mv_X12_give (ok_X12_give G x193 x194 x195 x196 m191 rY mY hY) sh_272 rfl rfl rfl (Nat.le_of_ble_eq_true rfl) (ea_okK rfl (show 400 + Int32.toNatClampNeg x185 + 5 + 0 ≤ 601024 from by omega) (show 30000 + 6 * Int32.toNatClampNeg x185 + 30 + 0 ≤ 7293034 from by omega))) rfl (fun r198 m197 => ?_)
  refine ev_istore (ls' := [some (.ref 2000), some (.ref 0), some (.ref 272), some (.ref 287), some (.int x185), some (.int r192), some (.int r198)]) (ea_at dt_L_law__9 50 rfl) (ea_lt rfl) rfl ?_
  refine ev_aload_n (ea_at dt_L_law__9 51 rfl) rfl ?_
  refine ev_clI (F1 := F_X12_thrown) (fun rY mY hY => ea_runV (As := []) (ea_at dt_L_law__9 52 rfl) ml_L_148 mv_X12_thrown (ok_X12_thrown G m197 rY mY hY) sh_272 rfl rfl rfl (Nat.le_of_ble_eq_true rfl) (ea_okK rfl (show 400 + Int32.toNatClampNeg x185 + 5 + 0 + 0 ≤ 601024 from by omega) (show 30000 + 6 * Int32.toNatClampNeg x185 + 30 + 0 + 0 ≤ 7293034 from by omega))) rfl (fun r200 m199 => ?_)
  refine ev_iload (ea_at dt_L_law__9 53 rfl) rfl ?_
  refine ev_icmp_eq (tgt := 1087) (ea_at dt_L_law__9 54 rfl) rfl (fun _ => ?_) (fun _ => ?_)
  · refine ev_iload (ea_at dt_L_law__9 57 rfl) rfl ?_
    refine ev_if_ne (tgt := 1104) (ea_at dt_L_law__9 58 rfl) rfl (fun _ => ?_) (fun _ => ?_)
    · refine ev_aload_n (ea_at dt_L_law__9 59 rfl) rfl ?_
      refine ev_iconst (ea_at dt_L_law__10 0 rfl) ic_0 ?_
      refine ev_laloadC (j := 0) (ea_at dt_L_law__10 1 rfl) sh_287 (by decide) (by decide) (by decide) ?_
      refine ev_iload (ea_at dt_L_law__10 2 rfl) rfl ?_
      refine ev_i2l (ea_at dt_L_law__10 3 rfl) ?_
      refine ev_lcmp (ea_at dt_L_law__10 4 rfl) ?_
      refine ev_if_eq (tgt := 1104) (ea_at dt_L_law__10 5 rfl) rfl (fun _ => ?_) (fun _ => ?_)
      · refine ev_wid (k' := 400 + Int32.toNatClampNeg x185 + 6) (n' := 30000 + 6 * Int32.toNatClampNeg x185 + 36) (show 400 + Int32.toNatClampNeg x185 + 5 + 0 + 0 ≤ 400 + Int32.toNatClampNeg x185 + 6 from by omega) (show 30000 + 6 * Int32.toNatClampNeg x185 + 30 + 0 + 0 ≤ 30000 + 6 * Int32.toNatClampNeg x185 + 36 from by omega) ?_
        exact ev_drop (l' := [some (.ref 2000), some (.ref 0), some (.ref 272), some (.ref 287), some (.int x185), none, none]) ⟨Or.inr rfl, Or.inr rfl, Or.inr rfl, Or.inr rfl, Or.inr rfl, Or.inl rfl, Or.inl rfl, trivial⟩ (jn_L_law__1104 G x185 m199 hx185 hC hR hX)
      · refine ev_iconst (ea_at dt_L_law__10 6 rfl) ic_0 ?_
        exact ev_zret (by decide) (ea_at dt_L_law__10 7 rfl) rfl ⟨show 400 + Int32.toNatClampNeg x185 + 5 + 0 + 0 ≤ 601024 from by omega, show 30000 + 6 * Int32.toNatClampNeg x185 + 30 + 0 + 0 ≤ 7293034 from by omega⟩ (fun h => hR _ h)
    · refine ev_wid (k' := 400 + Int32.toNatClampNeg x185 + 6) (n' := 30000 + 6 * Int32.toNatClampNeg x185 + 36) (show 400 + Int32.toNatClampNeg x185 + 5 + 0 + 0 ≤ 400 + Int32.toNatClampNeg x185 + 6 from by omega) (show 30000 + 6 * Int32.toNatClampNeg x185 + 30 + 0 + 0 ≤ 30000 + 6 * Int32.toNatClampNeg x185 + 36 from by omega) ?_
      exact ev_drop (l' := [some (.ref 2000), some (.ref 0), some (.ref 272), some (.ref 287), some (.int x185), none, none]) ⟨Or.inr rfl, Or.inr rfl, Or.inr rfl, Or.inr rfl, Or.inr rfl, Or.inl rfl, Or.inl rfl, trivial⟩ (jn_L_law__1104 G x185 m199 hx185 hC hR hX)
  · refine ev_iconst (ea_at dt_L_law__9 55 rfl) ic_0 ?_
    exact ev_zret (by decide) (ea_at dt_L_law__9 56 rfl) rfl ⟨show 400 + Int32.toNatClampNeg x185 + 5 + 0 + 0 ≤ 601024 from by omega, show 30000 + 6 * Int32.toNatClampNeg x185 + 30 + 0 + 0 ≤ 7293034 from by omega⟩ (fun h => hR _ h)
set_option maxHeartbeats 300000 in
theorem jn_L_law__1160 (G : ea_G) {res : ea_O}  (x213 : Int32) (m214 : ea_M) (hx213 : Int32.toNatClampNeg x213 ≤ 4000) {Φ : ((Int32 × ea_M) ⊕ ((Int32 × ea_M) ⊕ (ea_M))) → Prop} (hC : ∀ s23 : Int32 × ea_M, Φ (.inl s23) → ea_Ev G F_L_law_ res 23 [some (.ref 2000), some (.ref 0), some (.ref 272), some (.ref 287), some (.int s23.1), none, none] [] s23.2 (400 + Int32.toNatClampNeg s23.1) (30000 + 6 * Int32.toNatClampNeg s23.1)) (hR : ∀ t : Int32 × ea_M, Φ (.inr (.inl t)) → res = (0, t)) (hX : ∀ x23s : ea_M, Φ (.inr (.inr x23s)) → ea_Ev G F_L_law_ res 2851 [none, none, none, none, none, none, none] [] x23s 5000 60000) : ea_E G F_L_law_ res 1160 [some (.ref 2000), some (.ref 0), some (.ref 272), some (.ref 287), some (.int x213), none, none] [] m214 (400 + Int32.toNatClampNeg x213 + 6) (30000 + 6 * Int32.toNatClampNeg x213 + 36) (f_L_law__j1160 G x213 m214) Φ := by
  unfold f_L_law__j1160
  refine ev_goto (tgt := 2845) (ea_at dt_L_law__10 43 rfl) rfl ?_
  refine ev_wid (k' := 400 + Int32.toNatClampNeg x213 + 6) (n' := 30000 + 6 * Int32.toNatClampNeg x213 + 36) (show 400 + Int32.toNatClampNeg x213 + 6 ≤ 400 + Int32.toNatClampNeg x213 + 6 from by omega) (show 30000 + 6 * Int32.toNatClampNeg x213 + 36 ≤ 30000 + 6 * Int32.toNatClampNeg x213 + 36 from by omega) ?_
  exact ev_drop (l' := [some (.ref 2000), some (.ref 0), some (.ref 272), some (.ref 287), some (.int x213), none, none]) ⟨Or.inr rfl, Or.inr rfl, Or.inr rfl, Or.inr rfl, Or.inr rfl, Or.inl rfl, Or.inl rfl, trivial⟩ (jn_L_law__2845 G x213 m214 hx213 hC hR hX)
set_option maxHeartbeats 300000 in
theorem jn_L_law__1107 (G : ea_G) {res : ea_O}  (x203 : Int32) (m204 : ea_M) (hx203 : Int32.toNatClampNeg x203 ≤ 4000) {Φ : ((Int32 × ea_M) ⊕ ((Int32 × ea_M) ⊕ (ea_M))) → Prop} (hC : ∀ s23 : Int32 × ea_M, Φ (.inl s23) → ea_Ev G F_L_law_ res 23 [some (.ref 2000), some (.ref 0), some (.ref 272), some (.ref 287), some (.int s23.1), none, none] [] s23.2 (400 + Int32.toNatClampNeg s23.1) (30000 + 6 * Int32.toNatClampNeg s23.1)) (hR : ∀ t : Int32 × ea_M, Φ (.inr (.inl t)) → res = (0, t)) (hX : ∀ x23s : ea_M, Φ (.inr (.inr x23s)) → ea_Ev G F_L_law_ res 2851 [none, none, none, none, none, none, none] [] x23s 5000 60000) : ea_E G F_L_law_ res 1107 [some (.ref 2000), some (.ref 0), some (.ref 272), some (.ref 287), some (.int x203), none, none] [] m204 (400 + Int32.toNatClampNeg x203) (30000 + 6 * Int32.toNatClampNeg x203) (f_L_law__j1107 G x203 m204) Φ := by
  unfold f_L_law__j1107
  refine ev_aload_n (ea_at dt_L_law__10 9 rfl) rfl ?_
  refine ev_aload_n (ea_at dt_L_law__10 10 rfl) rfl ?_
  refine ev_iload (ea_at dt_L_law__10 11 rfl) rfl ?_
  refine ev_iconst (ea_at dt_L_law__10 12 rfl) ic_1 ?_
  refine ev_iadd (ea_at dt_L_law__10 13 rfl) ?_
  refine ev_script (ea_at dt_L_law__10 14 rfl) ?_
  refine ev_i (fun x205 => ?_)
  refine ev_aload_n (ea_at dt_L_law__10 15 rfl) rfl ?_
  refine ev_clI (F1 := F_L_appeal) (fun rY mY hY => ea_runSH (As := [.ref 0, .int x205, .ref 287]) (ea_at dt_L_law__10 16 rfl) ml_L_190 mv_L_appeal (ok_L_appeal G x205 m204 rY mY hY) rfl rfl (Nat.le_of_ble_eq_true rfl) (ea_okK rfl (show 400 + Int32.toNatClampNeg x203 + 2 ≤ 601024 from by omega) (show 30000 + 6 * Int32.toNatClampNeg x203 + 12 ≤ 7293034 from by omega))) rfl (fun r207 m206 => ?_)
  refine ev_istore (ls' := [some (.ref 2000), some (.ref 0), some (.ref 272), some (.ref 287), some (.int x203), some (.int r207), none]) (ea_at dt_L_law__10 17 rfl) (ea_lt rfl) rfl ?_
  refine ev_aload_n (ea_at dt_L_law__10 18 rfl) rfl ?_
  refine ev_aload_n (ea_at dt_L_law__10 19 rfl) rfl ?_
  refine ev_iload (ea_at dt_L_law__10 20 rfl) rfl ?_
  refine ev_iconst (ea_at dt_L_law__10 21 rfl) ic_1 ?_
  refine ev_iadd (ea_at dt_L_law__10 22 rfl) ?_
  refine ev_script (ea_at dt_L_law__10 23 rfl) ?_
  refine ev_i (fun x208 => ?_)
  refine ev_clI (F1 := F_X12_appeal) (fun rY mY hY => ea_runV (As := [.int x208]) (ea_at dt_L_law__10 24 rfl) ml_L_192 mv_X12_appeal (ok_X12_appeal G x208 m206 rY mY hY) sh_272 rfl rfl rfl (Nat.le_of_ble_eq_true rfl) (ea_okK rfl (show 400 + Int32.toNatClampNeg x203 + 2 + 0 ≤ 601024 from by omega) (show 30000 + 6 * Int32.toNatClampNeg x203 + 12 + 0 ≤ 7293034 from by omega))) rfl (fun r210 m209 => ?_)
  refine ev_istore (ls' := [some (.ref 2000), some (.ref 0), some (.ref 272), some (.ref 287), some (.int x203), some (.int r207), some (.int r210)]) (ea_at dt_L_law__10 25 rfl) (ea_lt rfl) rfl ?_
  refine ev_aload_n (ea_at dt_L_law__10 26 rfl) rfl ?_
  refine ev_clI (F1 := F_X12_thrown) (fun rY mY hY => ea_runV (As := []) (ea_at dt_L_law__10 27 rfl) ml_L_148 mv_X12_thrown (ok_X12_thrown G m209 rY mY hY) sh_272 rfl rfl rfl (Nat.le_of_ble_eq_true rfl) (ea_okK rfl (show 400 + Int32.toNatClampNeg x203 + 2 + 0 + 0 ≤ 601024 from by omega) (show 30000 + 6 * Int32.toNatClampNeg x203 + 12 + 0 + 0 ≤ 7293034 from by omega))) rfl (fun r212 m211 => ?_)
  refine ev_iload (ea_at dt_L_law__10 28 rfl) rfl ?_
  refine ev_icmp_eq (tgt := 1143) (ea_at dt_L_law__10 29 rfl) rfl (fun _ => ?_) (fun _ => ?_)
  · refine ev_iload (ea_at dt_L_law__10 32 rfl) rfl ?_
    refine ev_if_ne (tgt := 1160) (ea_at dt_L_law__10 33 rfl) rfl (fun _ => ?_) (fun _ => ?_)
    · refine ev_aload_n (ea_at dt_L_law__10 34 rfl) rfl ?_
      refine ev_iconst (ea_at dt_L_law__10 35 rfl) ic_0 ?_
      refine ev_laloadC (j := 0) (ea_at dt_L_law__10 36 rfl) sh_287 (by decide) (by decide) (by decide) ?_
      refine ev_iload (ea_at dt_L_law__10 37 rfl) rfl ?_
      refine ev_i2l (ea_at dt_L_law__10 38 rfl) ?_
      refine ev_lcmp (ea_at dt_L_law__10 39 rfl) ?_
      refine ev_if_eq (tgt := 1160) (ea_at dt_L_law__10 40 rfl) rfl (fun _ => ?_) (fun _ => ?_)
      · refine ev_wid (k' := 400 + Int32.toNatClampNeg x203 + 6) (n' := 30000 + 6 * Int32.toNatClampNeg x203 + 36) (show 400 + Int32.toNatClampNeg x203 + 2 + 0 + 0 ≤ 400 + Int32.toNatClampNeg x203 + 6 from by omega) (show 30000 + 6 * Int32.toNatClampNeg x203 + 12 + 0 + 0 ≤ 30000 + 6 * Int32.toNatClampNeg x203 + 36 from by omega) ?_
        exact ev_drop (l' := [some (.ref 2000), some (.ref 0), some (.ref 272), some (.ref 287), some (.int x203), none, none]) ⟨Or.inr rfl, Or.inr rfl, Or.inr rfl, Or.inr rfl, Or.inr rfl, Or.inl rfl, Or.inl rfl, trivial⟩ (jn_L_law__1160 G x203 m211 hx203 hC hR hX)
      · refine ev_iconst (ea_at dt_L_law__10 41 rfl) ic_0 ?_
        exact ev_zret (by decide) (ea_at dt_L_law__10 42 rfl) rfl ⟨show 400 + Int32.toNatClampNeg x203 + 2 + 0 + 0 ≤ 601024 from by omega, show 30000 + 6 * Int32.toNatClampNeg x203 + 12 + 0 + 0 ≤ 7293034 from by omega⟩ (fun h => hR _ h)
    · refine ev_wid (k' := 400 + Int32.toNatClampNeg x203 + 6) (n' := 30000 + 6 * Int32.toNatClampNeg x203 + 36) (show 400 + Int32.toNatClampNeg x203 + 2 + 0 + 0 ≤ 400 + Int32.toNatClampNeg x203 + 6 from by omega) (show 30000 + 6 * Int32.toNatClampNeg x203 + 12 + 0 + 0 ≤ 30000 + 6 * Int32.toNatClampNeg x203 + 36 from by omega) ?_
      exact ev_drop (l' := [some (.ref 2000), some (.ref 0), some (.ref 272), some (.ref 287), some (.int x203), none, none]) ⟨Or.inr rfl, Or.inr rfl, Or.inr rfl, Or.inr rfl, Or.inr rfl, Or.inl rfl, Or.inl rfl, trivial⟩ (jn_L_law__1160 G x203 m211 hx203 hC hR hX)
  · refine ev_iconst (ea_at dt_L_law__10 30 rfl) ic_0 ?_
    exact ev_zret (by decide) (ea_at dt_L_law__10 31 rfl) rfl ⟨show 400 + Int32.toNatClampNeg x203 + 2 + 0 + 0 ≤ 601024 from by omega, show 30000 + 6 * Int32.toNatClampNeg x203 + 12 + 0 + 0 ≤ 7293034 from by omega⟩ (fun h => hR _ h)
set_option maxHeartbeats 300000 in
theorem jn_L_law__1216 (G : ea_G) {res : ea_O}  (x225 : Int32) (m226 : ea_M) (hx225 : Int32.toNatClampNeg x225 ≤ 4000) {Φ : ((Int32 × ea_M) ⊕ ((Int32 × ea_M) ⊕ (ea_M))) → Prop} (hC : ∀ s23 : Int32 × ea_M, Φ (.inl s23) → ea_Ev G F_L_law_ res 23 [some (.ref 2000), some (.ref 0), some (.ref 272), some (.ref 287), some (.int s23.1), none, none] [] s23.2 (400 + Int32.toNatClampNeg s23.1) (30000 + 6 * Int32.toNatClampNeg s23.1)) (hR : ∀ t : Int32 × ea_M, Φ (.inr (.inl t)) → res = (0, t)) (hX : ∀ x23s : ea_M, Φ (.inr (.inr x23s)) → ea_Ev G F_L_law_ res 2851 [none, none, none, none, none, none, none] [] x23s 5000 60000) : ea_E G F_L_law_ res 1216 [some (.ref 2000), some (.ref 0), some (.ref 272), some (.ref 287), some (.int x225), none, none] [] m226 (400 + Int32.toNatClampNeg x225 + 6) (30000 + 6 * Int32.toNatClampNeg x225 + 36) (f_L_law__j1216 G x225 m226) Φ := by
  unfold f_L_law__j1216
  refine ev_goto (tgt := 2845) (ea_at dt_L_law__11 18 rfl) rfl ?_
  refine ev_wid (k' := 400 + Int32.toNatClampNeg x225 + 6) (n' := 30000 + 6 * Int32.toNatClampNeg x225 + 36) (show 400 + Int32.toNatClampNeg x225 + 6 ≤ 400 + Int32.toNatClampNeg x225 + 6 from by omega) (show 30000 + 6 * Int32.toNatClampNeg x225 + 36 ≤ 30000 + 6 * Int32.toNatClampNeg x225 + 36 from by omega) ?_
  exact ev_drop (l' := [some (.ref 2000), some (.ref 0), some (.ref 272), some (.ref 287), some (.int x225), none, none]) ⟨Or.inr rfl, Or.inr rfl, Or.inr rfl, Or.inr rfl, Or.inr rfl, Or.inl rfl, Or.inl rfl, trivial⟩ (jn_L_law__2845 G x225 m226 hx225 hC hR hX)
set_option maxHeartbeats 300000 in
theorem jn_L_law__1163 (G : ea_G) {res : ea_O}  (x215 : Int32) (m216 : ea_M) (hx215 : Int32.toNatClampNeg x215 ≤ 4000) {Φ : ((Int32 × ea_M) ⊕ ((Int32 × ea_M) ⊕ (ea_M))) → Prop} (hC : ∀ s23 : Int32 × ea_M, Φ (.inl s23) → ea_Ev G F_L_law_ res 23 [some (.ref 2000), some (.ref 0), some (.ref 272), some (.ref 287), some (.int s23.1), none, none] [] s23.2 (400 + Int32.toNatClampNeg s23.1) (30000 + 6 * Int32.toNatClampNeg s23.1)) (hR : ∀ t : Int32 × ea_M, Φ (.inr (.inl t)) → res = (0, t)) (hX : ∀ x23s : ea_M, Φ (.inr (.inr x23s)) → ea_Ev G F_L_law_ res 2851 [none, none, none, none, none, none, none] [] x23s 5000 60000) : ea_E G F_L_law_ res 1163 [some (.ref 2000), some (.ref 0), some (.ref 272), some (.ref 287), some (.int x215), none, none] [] m216 (400 + Int32.toNatClampNeg x215) (30000 + 6 * Int32.toNatClampNeg x215) (f_L_law__j1163 G x215 m216) Φ := by
  unfold f_L_law__j1163
  refine ev_aload_n (ea_at dt_L_law__10 44 rfl) rfl ?_
  refine ev_aload_n (ea_at dt_L_law__10 45 rfl) rfl ?_
  refine ev_iload (ea_at dt_L_law__10 46 rfl) rfl ?_
  refine ev_iconst (ea_at dt_L_law__10 47 rfl) ic_1 ?_
  refine ev_iadd (ea_at dt_L_law__10 48 rfl) ?_
  refine ev_script (ea_at dt_L_law__10 49 rfl) ?_
  refine ev_i (fun x217 => ?_)
  refine ev_aload_n (ea_at dt_L_law__10 50 rfl) rfl ?_
  refine ev_clI (F1 := F_L_weeks) (fun rY mY hY => ea_runSH (As := [.ref 0, .int x217, .ref 287]) (ea_at dt_L_law__10 51 rfl) ml_L_193 mv_L_weeks (ok_L_weeks G x217 m216 rY mY hY) rfl rfl (Nat.le_of_ble_eq_true rfl) (ea_okK rfl (show 400 + Int32.toNatClampNeg x215 + 1 ≤ 601024 from by omega) (show 30000 + 6 * Int32.toNatClampNeg x215 + 6 ≤ 7293034 from by omega))) rfl (fun r219 m218 => ?_)
  refine ev_istore (ls' := [some (.ref 2000), some (.ref 0), some (.ref 272), some (.ref 287), some (.int x215), some (.int r219), none]) (ea_at dt_L_law__10 52 rfl) (ea_lt rfl) rfl ?_
  refine ev_aload_n (ea_at dt_L_law__10 53 rfl) rfl ?_
  refine ev_aload_n (ea_at dt_L_law__10 54 rfl) rfl ?_
  refine ev_iload (ea_at dt_L_law__10 55 rfl) rfl ?_
  refine ev_iconst (ea_at dt_L_law__10 56 rfl) ic_1 ?_
  refine ev_iadd (ea_at dt_L_law__10 57 rfl) ?_
  refine ev_script (ea_at dt_L_law__10 58 rfl) ?_
  refine ev_i (fun x220 => ?_)
  refine ev_clI (F1 := F_X12_weeks) (fun rY mY hY => ea_runV (As := [.int x220]) (ea_at dt_L_law__10 59 rfl) ml_L_195 mv_X12_weeks (ok_X12_weeks G x220 m218 rY mY hY) sh_272 rfl rfl rfl (Nat.le_of_ble_eq_true rfl) (ea_okK rfl (show 400 + Int32.toNatClampNeg x215 + 1 + 0 ≤ 601024 from by omega) (show 30000 + 6 * Int32.toNatClampNeg x215 + 6 + 0 ≤ 7293034 from by omega))) rfl (fun r222 m221 => ?_)
  refine ev_istore (ls' := [some (.ref 2000), some (.ref 0), some (.ref 272), some (.ref 287), some (.int x215), some (.int r219), some (.int r222)]) (ea_at dt_L_law__11 0 rfl) (ea_lt rfl) rfl ?_
  refine ev_aload_n (ea_at dt_L_law__11 1 rfl) rfl ?_
  refine ev_clI (F1 := F_X12_thrown) (fun rY mY hY => ea_runV (As := []) (ea_at dt_L_law__11 2 rfl) ml_L_148 mv_X12_thrown (ok_X12_thrown G m221 rY mY hY) sh_272 rfl rfl rfl (Nat.le_of_ble_eq_true rfl) (ea_okK rfl (show 400 + Int32.toNatClampNeg x215 + 1 + 0 + 0 ≤ 601024 from by omega) (show 30000 + 6 * Int32.toNatClampNeg x215 + 6 + 0 + 0 ≤ 7293034 from by omega))) rfl (fun r224 m223 => ?_)
  refine ev_iload (ea_at dt_L_law__11 3 rfl) rfl ?_
  refine ev_icmp_eq (tgt := 1199) (ea_at dt_L_law__11 4 rfl) rfl (fun _ => ?_) (fun _ => ?_)
  · refine ev_iload (ea_at dt_L_law__11 7 rfl) rfl ?_
    refine ev_if_ne (tgt := 1216) (ea_at dt_L_law__11 8 rfl) rfl (fun _ => ?_) (fun _ => ?_)
    · refine ev_aload_n (ea_at dt_L_law__11 9 rfl) rfl ?_
      refine ev_iconst (ea_at dt_L_law__11 10 rfl) ic_0 ?_
      refine ev_laloadC (j := 0) (ea_at dt_L_law__11 11 rfl) sh_287 (by decide) (by decide) (by decide) ?_
      refine ev_iload (ea_at dt_L_law__11 12 rfl) rfl ?_
      refine ev_i2l (ea_at dt_L_law__11 13 rfl) ?_
      refine ev_lcmp (ea_at dt_L_law__11 14 rfl) ?_
      refine ev_if_eq (tgt := 1216) (ea_at dt_L_law__11 15 rfl) rfl (fun _ => ?_) (fun _ => ?_)
      · refine ev_wid (k' := 400 + Int32.toNatClampNeg x215 + 6) (n' := 30000 + 6 * Int32.toNatClampNeg x215 + 36) (show 400 + Int32.toNatClampNeg x215 + 1 + 0 + 0 ≤ 400 + Int32.toNatClampNeg x215 + 6 from by omega) (show 30000 + 6 * Int32.toNatClampNeg x215 + 6 + 0 + 0 ≤ 30000 + 6 * Int32.toNatClampNeg x215 + 36 from by omega) ?_
        exact ev_drop (l' := [some (.ref 2000), some (.ref 0), some (.ref 272), some (.ref 287), some (.int x215), none, none]) ⟨Or.inr rfl, Or.inr rfl, Or.inr rfl, Or.inr rfl, Or.inr rfl, Or.inl rfl, Or.inl rfl, trivial⟩ (jn_L_law__1216 G x215 m223 hx215 hC hR hX)
      · refine ev_iconst (ea_at dt_L_law__11 16 rfl) ic_0 ?_
        exact ev_zret (by decide) (ea_at dt_L_law__11 17 rfl) rfl ⟨show 400 + Int32.toNatClampNeg x215 + 1 + 0 + 0 ≤ 601024 from by omega, show 30000 + 6 * Int32.toNatClampNeg x215 + 6 + 0 + 0 ≤ 7293034 from by omega⟩ (fun h => hR _ h)
    · refine ev_wid (k' := 400 + Int32.toNatClampNeg x215 + 6) (n' := 30000 + 6 * Int32.toNatClampNeg x215 + 36) (show 400 + Int32.toNatClampNeg x215 + 1 + 0 + 0 ≤ 400 + Int32.toNatClampNeg x215 + 6 from by omega) (show 30000 + 6 * Int32.toNatClampNeg x215 + 6 + 0 + 0 ≤ 30000 + 6 * Int32.toNatClampNeg x215 + 36 from by omega) ?_
      exact ev_drop (l' := [some (.ref 2000), some (.ref 0), some (.ref 272), some (.ref 287), some (.int x215), none, none]) ⟨Or.inr rfl, Or.inr rfl, Or.inr rfl, Or.inr rfl, Or.inr rfl, Or.inl rfl, Or.inl rfl, trivial⟩ (jn_L_law__1216 G x215 m223 hx215 hC hR hX)
  · refine ev_iconst (ea_at dt_L_law__11 5 rfl) ic_0 ?_
    exact ev_zret (by decide) (ea_at dt_L_law__11 6 rfl) rfl ⟨show 400 + Int32.toNatClampNeg x215 + 1 + 0 + 0 ≤ 601024 from by omega, show 30000 + 6 * Int32.toNatClampNeg x215 + 6 + 0 + 0 ≤ 7293034 from by omega⟩ (fun h => hR _ h)
set_option maxHeartbeats 300000 in
theorem jn_L_law__1284 (G : ea_G) {res : ea_O}  (x239 : Int32) (m240 : ea_M) (hx239 : Int32.toNatClampNeg x239 ≤ 4000) {Φ : ((Int32 × ea_M) ⊕ ((Int32 × ea_M) ⊕ (ea_M))) → Prop} (hC : ∀ s23 : Int32 × ea_M, Φ (.inl s23) → ea_Ev G F_L_law_ res 23 [some (.ref 2000), some (.ref 0), some (.ref 272), some (.ref 287), some (.int s23.1), none, none] [] s23.2 (400 + Int32.toNatClampNeg s23.1) (30000 + 6 * Int32.toNatClampNeg s23.1)) (hR : ∀ t : Int32 × ea_M, Φ (.inr (.inl t)) → res = (0, t)) (hX : ∀ x23s : ea_M, Φ (.inr (.inr x23s)) → ea_Ev G F_L_law_ res 2851 [none, none, none, none, none, none, none] [] x23s 5000 60000) : ea_E G F_L_law_ res 1284 [some (.ref 2000), some (.ref 0), some (.ref 272), some (.ref 287), some (.int x239), none, none] [] m240 (400 + Int32.toNatClampNeg x239 + 6) (30000 + 6 * Int32.toNatClampNeg x239 + 36) (f_L_law__j1284 G x239 m240) Φ := by
  unfold f_L_law__j1284
  refine ev_goto (tgt := 2845) (ea_at dt_L_law__12 3 rfl) rfl ?_
  refine ev_wid (k' := 400 + Int32.toNatClampNeg x239 + 6) (n' := 30000 + 6 * Int32.toNatClampNeg x239 + 36) (show 400 + Int32.toNatClampNeg x239 + 6 ≤ 400 + Int32.toNatClampNeg x239 + 6 from by omega) (show 30000 + 6 * Int32.toNatClampNeg x239 + 36 ≤ 30000 + 6 * Int32.toNatClampNeg x239 + 36 from by omega) ?_
  exact ev_drop (l' := [some (.ref 2000), some (.ref 0), some (.ref 272), some (.ref 287), some (.int x239), none, none]) ⟨Or.inr rfl, Or.inr rfl, Or.inr rfl, Or.inr rfl, Or.inr rfl, Or.inl rfl, Or.inl rfl, trivial⟩ (jn_L_law__2845 G x239 m240 hx239 hC hR hX)
set_option maxHeartbeats 300000 in
theorem jn_L_law__1219 (G : ea_G) {res : ea_O}  (x227 : Int32) (m228 : ea_M) (hx227 : Int32.toNatClampNeg x227 ≤ 4000) {Φ : ((Int32 × ea_M) ⊕ ((Int32 × ea_M) ⊕ (ea_M))) → Prop} (hC : ∀ s23 : Int32 × ea_M, Φ (.inl s23) → ea_Ev G F_L_law_ res 23 [some (.ref 2000), some (.ref 0), some (.ref 272), some (.ref 287), some (.int s23.1), none, none] [] s23.2 (400 + Int32.toNatClampNeg s23.1) (30000 + 6 * Int32.toNatClampNeg s23.1)) (hR : ∀ t : Int32 × ea_M, Φ (.inr (.inl t)) → res = (0, t)) (hX : ∀ x23s : ea_M, Φ (.inr (.inr x23s)) → ea_Ev G F_L_law_ res 2851 [none, none, none, none, none, none, none] [] x23s 5000 60000) : ea_E G F_L_law_ res 1219 [some (.ref 2000), some (.ref 0), some (.ref 272), some (.ref 287), some (.int x227), none, none] [] m228 (400 + Int32.toNatClampNeg x227) (30000 + 6 * Int32.toNatClampNeg x227) (f_L_law__j1219 G x227 m228) Φ := by
  unfold f_L_law__j1219
  refine ev_aload_n (ea_at dt_L_law__11 19 rfl) rfl ?_
  refine ev_aload_n (ea_at dt_L_law__11 20 rfl) rfl ?_
  refine ev_iload (ea_at dt_L_law__11 21 rfl) rfl ?_
  refine ev_iconst (ea_at dt_L_law__11 22 rfl) ic_1 ?_
  refine ev_iadd (ea_at dt_L_law__11 23 rfl) ?_
  refine ev_script (ea_at dt_L_law__11 24 rfl) ?_
  refine ev_i (fun x229 => ?_)
  refine ev_aload_n (ea_at dt_L_law__11 25 rfl) rfl ?_
  refine ev_iload (ea_at dt_L_law__11 26 rfl) rfl ?_
  refine ev_iconst (ea_at dt_L_law__11 27 rfl) ic_2 ?_
  refine ev_iadd (ea_at dt_L_law__11 28 rfl) ?_
  refine ev_script (ea_at dt_L_law__11 29 rfl) ?_
  refine ev_i (fun x230 => ?_)
  refine ev_aload_n (ea_at dt_L_law__11 30 rfl) rfl ?_
  refine ev_clI (F1 := F_L_ways) (fun rY mY hY => ea_runSH (As := [.ref 0, .int x229, .int x230, .ref 287]) (ea_at dt_L_law__11 31 rfl) ml_L_196 mv_L_ways (ok_L_ways G x229 x230 m228 rY mY hY) rfl rfl (Nat.le_of_ble_eq_true rfl) (ea_okK rfl (show 400 + Int32.toNatClampNeg x227 + 2 ≤ 601024 from by omega) (show 30000 + 6 * Int32.toNatClampNeg x227 + 12 ≤ 7293034 from by omega))) rfl (fun r232 m231 => ?_)
  refine ev_istore (ls' := [some (.ref 2000), some (.ref 0), some (.ref 272), some (.ref 287), some (.int x227), some (.int r232), none]) (ea_at dt_L_law__11 32 rfl) (ea_lt rfl) rfl ?_
  refine ev_aload_n (ea_at dt_L_law__11 33 rfl) rfl ?_
  refine ev_aload_n (ea_at dt_L_law__11 34 rfl) rfl ?_
  refine ev_iload (ea_at dt_L_law__11 35 rfl) rfl ?_
  refine ev_iconst (ea_at dt_L_law__11 36 rfl) ic_1 ?_
  refine ev_iadd (ea_at dt_L_law__11 37 rfl) ?_
  refine ev_script (ea_at dt_L_law__11 38 rfl) ?_
  refine ev_i (fun x233 => ?_)
  refine ev_aload_n (ea_at dt_L_law__11 39 rfl) rfl ?_
  refine ev_iload (ea_at dt_L_law__11 40 rfl) rfl ?_
  refine ev_iconst (ea_at dt_L_law__11 41 rfl) ic_2 ?_
  refine ev_iadd (ea_at dt_L_law__11 42 rfl) ?_
  refine ev_script (ea_at dt_L_law__11 43 rfl) ?_
  refine ev_i (fun x234 => ?_)
  refine ev_clI (F1 := F_X12_ways) (fun rY mY hY => ea_runV (As := [.int x233, .int x234]) (ea_at dt_L_law__11 44 rfl) ml_L_198 mv_X12_ways (ok_X12_ways G x233 x234 m231 rY mY hY) sh_272 rfl rfl rfl (Nat.le_of_ble_eq_true rfl) (ea_okK rfl (show 400 + Int32.toNatClampNeg x227 + 2 + 0 ≤ 601024 from by omega) (show 30000 + 6 * Int32.toNatClampNeg x227 + 12 + 0 ≤ 7293034 from by omega))) rfl (fun r236 m235 => ?_)
  refine ev_istore (ls' := [some (.ref 2000), some (.ref 0), some (.ref 272), some (.ref 287), some (.int x227), some (.int r232), some (.int r236)]) (ea_at dt_L_law__11 45 rfl) (ea_lt rfl) rfl ?_
  refine ev_aload_n (ea_at dt_L_law__11 46 rfl) rfl ?_
  refine ev_clI (F1 := F_X12_thrown) (fun rY mY hY => ea_runV (As := []) (ea_at dt_L_law__11 47 rfl) ml_L_148 mv_X12_thrown (ok_X12_thrown G m235 rY mY hY) sh_272 rfl rfl rfl (Nat.le_of_ble_eq_true rfl) (ea_okK rfl (show 400 + Int32.toNatClampNeg x227 + 2 + 0 + 0 ≤ 601024 from by omega) (show 30000 + 6 * Int32.toNatClampNeg x227 + 12 + 0 + 0 ≤ 7293034 from by omega))) rfl (fun r238 m237 => ?_)
  refine ev_iload (ea_at dt_L_law__11 48 rfl) rfl ?_
  refine ev_icmp_eq (tgt := 1267) (ea_at dt_L_law__11 49 rfl) rfl (fun _ => ?_) (fun _ => ?_)
  · refine ev_iload (ea_at dt_L_law__11 52 rfl) rfl ?_
    refine ev_if_ne (tgt := 1284) (ea_at dt_L_law__11 53 rfl) rfl (fun _ => ?_) (fun _ => ?_)
    · refine ev_aload_n (ea_at dt_L_law__11 54 rfl) rfl ?_
      refine ev_iconst (ea_at dt_L_law__11 55 rfl) ic_0 ?_
      refine ev_laloadC (j := 0) (ea_at dt_L_law__11 56 rfl) sh_287 (by decide) (by decide) (by decide) ?_
      refine ev_iload (ea_at dt_L_law__11 57 rfl) rfl ?_
      refine ev_i2l (ea_at dt_L_law__11 58 rfl) ?_
      refine ev_lcmp (ea_at dt_L_law__11 59 rfl) ?_
      refine ev_if_eq (tgt := 1284) (ea_at dt_L_law__12 0 rfl) rfl (fun _ => ?_) (fun _ => ?_)
      · refine ev_wid (k' := 400 + Int32.toNatClampNeg x227 + 6) (n' := 30000 + 6 * Int32.toNatClampNeg x227 + 36) (show 400 + Int32.toNatClampNeg x227 + 2 + 0 + 0 ≤ 400 + Int32.toNatClampNeg x227 + 6 from by omega) (show 30000 + 6 * Int32.toNatClampNeg x227 + 12 + 0 + 0 ≤ 30000 + 6 * Int32.toNatClampNeg x227 + 36 from by omega) ?_
        exact ev_drop (l' := [some (.ref 2000), some (.ref 0), some (.ref 272), some (.ref 287), some (.int x227), none, none]) ⟨Or.inr rfl, Or.inr rfl, Or.inr rfl, Or.inr rfl, Or.inr rfl, Or.inl rfl, Or.inl rfl, trivial⟩ (jn_L_law__1284 G x227 m237 hx227 hC hR hX)
      · refine ev_iconst (ea_at dt_L_law__12 1 rfl) ic_0 ?_
        exact ev_zret (by decide) (ea_at dt_L_law__12 2 rfl) rfl ⟨show 400 + Int32.toNatClampNeg x227 + 2 + 0 + 0 ≤ 601024 from by omega, show 30000 + 6 * Int32.toNatClampNeg x227 + 12 + 0 + 0 ≤ 7293034 from by omega⟩ (fun h => hR _ h)
    · refine ev_wid (k' := 400 + Int32.toNatClampNeg x227 + 6) (n' := 30000 + 6 * Int32.toNatClampNeg x227 + 36) (show 400 + Int32.toNatClampNeg x227 + 2 + 0 + 0 ≤ 400 + Int32.toNatClampNeg x227 + 6 from by omega) (show 30000 + 6 * Int32.toNatClampNeg x227 + 12 + 0 + 0 ≤ 30000 + 6 * Int32.toNatClampNeg x227 + 36 from by omega) ?_
      exact ev_drop (l' := [some (.ref 2000), some (.ref 0), some (.ref 272), some (.ref 287), some (.int x227), none, none]) ⟨Or.inr rfl, Or.inr rfl, Or.inr rfl, Or.inr rfl, Or.inr rfl, Or.inl rfl, Or.inl rfl, trivial⟩ (jn_L_law__1284 G x227 m237 hx227 hC hR hX)
  · refine ev_iconst (ea_at dt_L_law__11 50 rfl) ic_0 ?_
    exact ev_zret (by decide) (ea_at dt_L_law__11 51 rfl) rfl ⟨show 400 + Int32.toNatClampNeg x227 + 2 + 0 + 0 ≤ 601024 from by omega, show 30000 + 6 * Int32.toNatClampNeg x227 + 12 + 0 + 0 ≤ 7293034 from by omega⟩ (fun h => hR _ h)
set_option maxHeartbeats 300000 in
theorem jn_L_law__1352 (G : ea_G) {res : ea_O}  (x253 : Int32) (m254 : ea_M) (hx253 : Int32.toNatClampNeg x253 ≤ 4000) {Φ : ((Int32 × ea_M) ⊕ ((Int32 × ea_M) ⊕ (ea_M))) → Prop} (hC : ∀ s23 : Int32 × ea_M, Φ (.inl s23) → ea_Ev G F_L_law_ res 23 [some (.ref 2000), some (.ref 0), some (.ref 272), some (.ref 287), some (.int s23.1), none, none] [] s23.2 (400 + Int32.toNatClampNeg s23.1) (30000 + 6 * Int32.toNatClampNeg s23.1)) (hR : ∀ t : Int32 × ea_M, Φ (.inr (.inl t)) → res = (0, t)) (hX : ∀ x23s : ea_M, Φ (.inr (.inr x23s)) → ea_Ev G F_L_law_ res 2851 [none, none, none, none, none, none, none] [] x23s 5000 60000) : ea_E G F_L_law_ res 1352 [some (.ref 2000), some (.ref 0), some (.ref 272), some (.ref 287), some (.int x253), none, none] [] m254 (400 + Int32.toNatClampNeg x253 + 6) (30000 + 6 * Int32.toNatClampNeg x253 + 36) (f_L_law__j1352 G x253 m254) Φ := by
  unfold f_L_law__j1352
  refine ev_goto (tgt := 2845) (ea_at dt_L_law__12 48 rfl) rfl ?_
  refine ev_wid (k' := 400 + Int32.toNatClampNeg x253 + 6) (n' := 30000 + 6 * Int32.toNatClampNeg x253 + 36) (show 400 + Int32.toNatClampNeg x253 + 6 ≤ 400 + Int32.toNatClampNeg x253 + 6 from by omega) (show 30000 + 6 * Int32.toNatClampNeg x253 + 36 ≤ 30000 + 6 * Int32.toNatClampNeg x253 + 36 from by omega) ?_
  exact ev_drop (l' := [some (.ref 2000), some (.ref 0), some (.ref 272), some (.ref 287), some (.int x253), none, none]) ⟨Or.inr rfl, Or.inr rfl, Or.inr rfl, Or.inr rfl, Or.inr rfl, Or.inl rfl, Or.inl rfl, trivial⟩ (jn_L_law__2845 G x253 m254 hx253 hC hR hX)
set_option maxHeartbeats 300000 in
theorem jn_L_law__1287 (G : ea_G) {res : ea_O}  (x241 : Int32) (m242 : ea_M) (hx241 : Int32.toNatClampNeg x241 ≤ 4000) {Φ : ((Int32 × ea_M) ⊕ ((Int32 × ea_M) ⊕ (ea_M))) → Prop} (hC : ∀ s23 : Int32 × ea_M, Φ (.inl s23) → ea_Ev G F_L_law_ res 23 [some (.ref 2000), some (.ref 0), some (.ref 272), some (.ref 287), some (.int s23.1), none, none] [] s23.2 (400 + Int32.toNatClampNeg s23.1) (30000 + 6 * Int32.toNatClampNeg s23.1)) (hR : ∀ t : Int32 × ea_M, Φ (.inr (.inl t)) → res = (0, t)) (hX : ∀ x23s : ea_M, Φ (.inr (.inr x23s)) → ea_Ev G F_L_law_ res 2851 [none, none, none, none, none, none, none] [] x23s 5000 60000) : ea_E G F_L_law_ res 1287 [some (.ref 2000), some (.ref 0), some (.ref 272), some (.ref 287), some (.int x241), none, none] [] m242 (400 + Int32.toNatClampNeg x241) (30000 + 6 * Int32.toNatClampNeg x241) (f_L_law__j1287 G x241 m242) Φ := by
  unfold f_L_law__j1287
  refine ev_aload_n (ea_at dt_L_law__12 4 rfl) rfl ?_
  refine ev_aload_n (ea_at dt_L_law__12 5 rfl) rfl ?_
  refine ev_iload (ea_at dt_L_law__12 6 rfl) rfl ?_
  refine ev_iconst (ea_at dt_L_law__12 7 rfl) ic_1 ?_
  refine ev_iadd (ea_at dt_L_law__12 8 rfl) ?_
  refine ev_script (ea_at dt_L_law__12 9 rfl) ?_
  refine ev_i (fun x243 => ?_)
  refine ev_aload_n (ea_at dt_L_law__12 10 rfl) rfl ?_
  refine ev_iload (ea_at dt_L_law__12 11 rfl) rfl ?_
  refine ev_iconst (ea_at dt_L_law__12 12 rfl) ic_2 ?_
  refine ev_iadd (ea_at dt_L_law__12 13 rfl) ?_
  refine ev_script (ea_at dt_L_law__12 14 rfl) ?_
  refine ev_i (fun x244 => ?_)
  refine ev_aload_n (ea_at dt_L_law__12 15 rfl) rfl ?_
  refine ev_clI (F1 := F_L_lands) (fun rY mY hY => ea_runSH (As := [.ref 0, .int x243, .int x244, .ref 287]) (ea_at dt_L_law__12 16 rfl) ml_L_199 mv_L_lands (ok_L_lands G x243 x244 m242 rY mY hY) rfl rfl (Nat.le_of_ble_eq_true rfl) (ea_okK rfl (show 400 + Int32.toNatClampNeg x241 + 2 ≤ 601024 from by omega) (show 30000 + 6 * Int32.toNatClampNeg x241 + 12 ≤ 7293034 from by omega))) rfl (fun r246 m245 => ?_)
  refine ev_istore (ls' := [some (.ref 2000), some (.ref 0), some (.ref 272), some (.ref 287), some (.int x241), some (.int r246), none]) (ea_at dt_L_law__12 17 rfl) (ea_lt rfl) rfl ?_
  refine ev_aload_n (ea_at dt_L_law__12 18 rfl) rfl ?_
  refine ev_aload_n (ea_at dt_L_law__12 19 rfl) rfl ?_
  refine ev_iload (ea_at dt_L_law__12 20 rfl) rfl ?_
  refine ev_iconst (ea_at dt_L_law__12 21 rfl) ic_1 ?_
  refine ev_iadd (ea_at dt_L_law__12 22 rfl) ?_
  refine ev_script (ea_at dt_L_law__12 23 rfl) ?_
  refine ev_i (fun x247 => ?_)
  refine ev_aload_n (ea_at dt_L_law__12 24 rfl) rfl ?_
  refine ev_iload (ea_at dt_L_law__12 25 rfl) rfl ?_
  refine ev_iconst (ea_at dt_L_law__12 26 rfl) ic_2 ?_
  refine ev_iadd (ea_at dt_L_law__12 27 rfl) ?_
  refine ev_script (ea_at dt_L_law__12 28 rfl) ?_
  refine ev_i (fun x248 => ?_)
  refine ev_clI (F1 := F_X12_lands) (fun rY mY hY => ea_runV (As := [.int x247, .int x248]) (ea_at dt_L_law__12 29 rfl) ml_L_201 mv_X12_lands (ok_X12_lands G x247 x248 m245 rY mY hY) sh_272 rfl rfl rfl (Nat.le_of_ble_eq_true rfl) (ea_okK rfl (show 400 + Int32.toNatClampNeg x241 + 2 + 0 ≤ 601024 from by omega) (show 30000 + 6 * Int32.toNatClampNeg x241 + 12 + 0 ≤ 7293034 from by omega))) rfl (fun r250 m249 => ?_)
  refine ev_istore (ls' := [some (.ref 2000), some (.ref 0), some (.ref 272), some (.ref 287), some (.int x241), some (.int r246), some (.int r250)]) (ea_at dt_L_law__12 30 rfl) (ea_lt rfl) rfl ?_
  refine ev_aload_n (ea_at dt_L_law__12 31 rfl) rfl ?_
  refine ev_clI (F1 := F_X12_thrown) (fun rY mY hY => ea_runV (As := []) (ea_at dt_L_law__12 32 rfl) ml_L_148 mv_X12_thrown (ok_X12_thrown G m249 rY mY hY) sh_272 rfl rfl rfl (Nat.le_of_ble_eq_true rfl) (ea_okK rfl (show 400 + Int32.toNatClampNeg x241 + 2 + 0 + 0 ≤ 601024 from by omega) (show 30000 + 6 * Int32.toNatClampNeg x241 + 12 + 0 + 0 ≤ 7293034 from by omega))) rfl (fun r252 m251 => ?_)
  refine ev_iload (ea_at dt_L_law__12 33 rfl) rfl ?_
  refine ev_icmp_eq (tgt := 1335) (ea_at dt_L_law__12 34 rfl) rfl (fun _ => ?_) (fun _ => ?_)
  · refine ev_iload (ea_at dt_L_law__12 37 rfl) rfl ?_
    refine ev_if_ne (tgt := 1352) (ea_at dt_L_law__12 38 rfl) rfl (fun _ => ?_) (fun _ => ?_)
    · refine ev_aload_n (ea_at dt_L_law__12 39 rfl) rfl ?_
      refine ev_iconst (ea_at dt_L_law__12 40 rfl) ic_0 ?_
      refine ev_laloadC (j := 0) (ea_at dt_L_law__12 41 rfl) sh_287 (by decide) (by decide) (by decide) ?_
      refine ev_iload (ea_at dt_L_law__12 42 rfl) rfl ?_
      refine ev_i2l (ea_at dt_L_law__12 43 rfl) ?_
      refine ev_lcmp (ea_at dt_L_law__12 44 rfl) ?_
      refine ev_if_eq (tgt := 1352) (ea_at dt_L_law__12 45 rfl) rfl (fun _ => ?_) (fun _ => ?_)
      · refine ev_wid (k' := 400 + Int32.toNatClampNeg x241 + 6) (n' := 30000 + 6 * Int32.toNatClampNeg x241 + 36) (show 400 + Int32.toNatClampNeg x241 + 2 + 0 + 0 ≤ 400 + Int32.toNatClampNeg x241 + 6 from by omega) (show 30000 + 6 * Int32.toNatClampNeg x241 + 12 + 0 + 0 ≤ 30000 + 6 * Int32.toNatClampNeg x241 + 36 from by omega) ?_
        exact ev_drop (l' := [some (.ref 2000), some (.ref 0), some (.ref 272), some (.ref 287), some (.int x241), none, none]) ⟨Or.inr rfl, Or.inr rfl, Or.inr rfl, Or.inr rfl, Or.inr rfl, Or.inl rfl, Or.inl rfl, trivial⟩ (jn_L_law__1352 G x241 m251 hx241 hC hR hX)
      · refine ev_iconst (ea_at dt_L_law__12 46 rfl) ic_0 ?_
        exact ev_zret (by decide) (ea_at dt_L_law__12 47 rfl) rfl ⟨show 400 + Int32.toNatClampNeg x241 + 2 + 0 + 0 ≤ 601024 from by omega, show 30000 + 6 * Int32.toNatClampNeg x241 + 12 + 0 + 0 ≤ 7293034 from by omega⟩ (fun h => hR _ h)
    · refine ev_wid (k' := 400 + Int32.toNatClampNeg x241 + 6) (n' := 30000 + 6 * Int32.toNatClampNeg x241 + 36) (show 400 + Int32.toNatClampNeg x241 + 2 + 0 + 0 ≤ 400 + Int32.toNatClampNeg x241 + 6 from by omega) (show 30000 + 6 * Int32.toNatClampNeg x241 + 12 + 0 + 0 ≤ 30000 + 6 * Int32.toNatClampNeg x241 + 36 from by omega) ?_
      exact ev_drop (l' := [some (.ref 2000), some (.ref 0), some (.ref 272), some (.ref 287), some (.int x241), none, none]) ⟨Or.inr rfl, Or.inr rfl, Or.inr rfl, Or.inr rfl, Or.inr rfl, Or.inl rfl, Or.inl rfl, trivial⟩ (jn_L_law__1352 G x241 m251 hx241 hC hR hX)
  · refine ev_iconst (ea_at dt_L_law__12 35 rfl) ic_0 ?_
    exact ev_zret (by decide) (ea_at dt_L_law__12 36 rfl) rfl ⟨show 400 + Int32.toNatClampNeg x241 + 2 + 0 + 0 ≤ 601024 from by omega, show 30000 + 6 * Int32.toNatClampNeg x241 + 12 + 0 + 0 ≤ 7293034 from by omega⟩ (fun h => hR _ h)
set_option maxHeartbeats 300000 in
theorem jn_L_law__1420 (G : ea_G) {res : ea_O}  (x267 : Int32) (m268 : ea_M) (hx267 : Int32.toNatClampNeg x267 ≤ 4000) {Φ : ((Int32 × ea_M) ⊕ ((Int32 × ea_M) ⊕ (ea_M))) → Prop} (hC : ∀ s23 : Int32 × ea_M, Φ (.inl s23) → ea_Ev G F_L_law_ res 23 [some (.ref 2000), some (.ref 0), some (.ref 272), some (.ref 287), some (.int s23.1), none, none] [] s23.2 (400 + Int32.toNatClampNeg s23.1) (30000 + 6 * Int32.toNatClampNeg s23.1)) (hR : ∀ t : Int32 × ea_M, Φ (.inr (.inl t)) → res = (0, t)) (hX : ∀ x23s : ea_M, Φ (.inr (.inr x23s)) → ea_Ev G F_L_law_ res 2851 [none, none, none, none, none, none, none] [] x23s 5000 60000) : ea_E G F_L_law_ res 1420 [some (.ref 2000), some (.ref 0), some (.ref 272), some (.ref 287), some (.int x267), none, none] [] m268 (400 + Int32.toNatClampNeg x267 + 6) (30000 + 6 * Int32.toNatClampNeg x267 + 36) (f_L_law__j1420 G x267 m268) Φ := by
  unfold f_L_law__j1420
  refine ev_goto (tgt := 2845) (ea_at dt_L_law__13 33 rfl) rfl ?_
  refine ev_wid (k' := 400 + Int32.toNatClampNeg x267 + 6) (n' := 30000 + 6 * Int32.toNatClampNeg x267 + 36) (show 400 + Int32.toNatClampNeg x267 + 6 ≤ 400 + Int32.toNatClampNeg x267 + 6 from by omega) (show 30000 + 6 * Int32.toNatClampNeg x267 + 36 ≤ 30000 + 6 * Int32.toNatClampNeg x267 + 36 from by omega) ?_
  exact ev_drop (l' := [some (.ref 2000), some (.ref 0), some (.ref 272), some (.ref 287), some (.int x267), none, none]) ⟨Or.inr rfl, Or.inr rfl, Or.inr rfl, Or.inr rfl, Or.inr rfl, Or.inl rfl, Or.inl rfl, trivial⟩ (jn_L_law__2845 G x267 m268 hx267 hC hR hX)
set_option maxHeartbeats 300000 in
theorem jn_L_law__1355 (G : ea_G) {res : ea_O}  (x255 : Int32) (m256 : ea_M) (hx255 : Int32.toNatClampNeg x255 ≤ 4000) {Φ : ((Int32 × ea_M) ⊕ ((Int32 × ea_M) ⊕ (ea_M))) → Prop} (hC : ∀ s23 : Int32 × ea_M, Φ (.inl s23) → ea_Ev G F_L_law_ res 23 [some (.ref 2000), some (.ref 0), some (.ref 272), some (.ref 287), some (.int s23.1), none, none] [] s23.2 (400 + Int32.toNatClampNeg s23.1) (30000 + 6 * Int32.toNatClampNeg s23.1)) (hR : ∀ t : Int32 × ea_M, Φ (.inr (.inl t)) → res = (0, t)) (hX : ∀ x23s : ea_M, Φ (.inr (.inr x23s)) → ea_Ev G F_L_law_ res 2851 [none, none, none, none, none, none, none] [] x23s 5000 60000) : ea_E G F_L_law_ res 1355 [some (.ref 2000), some (.ref 0), some (.ref 272), some (.ref 287), some (.int x255), none, none] [] m256 (400 + Int32.toNatClampNeg x255) (30000 + 6 * Int32.toNatClampNeg x255) (f_L_law__j1355 G x255 m256) Φ := by
  unfold f_L_law__j1355
  refine ev_aload_n (ea_at dt_L_law__12 49 rfl) rfl ?_
  refine ev_aload_n (ea_at dt_L_law__12 50 rfl) rfl ?_
  refine ev_iload (ea_at dt_L_law__12 51 rfl) rfl ?_
  refine ev_iconst (ea_at dt_L_law__12 52 rfl) ic_1 ?_
  refine ev_iadd (ea_at dt_L_law__12 53 rfl) ?_
  refine ev_script (ea_at dt_L_law__12 54 rfl) ?_
  refine ev_i (fun x257 => ?_)
  refine ev_aload_n (ea_at dt_L_law__12 55 rfl) rfl ?_
  refine ev_iload (ea_at dt_L_law__12 56 rfl) rfl ?_
  refine ev_iconst (ea_at dt_L_law__12 57 rfl) ic_2 ?_
  refine ev_iadd (ea_at dt_L_law__12 58 rfl) ?_
  refine ev_script (ea_at dt_L_law__12 59 rfl) ?_
  refine ev_i (fun x258 => ?_)
  refine ev_aload_n (ea_at dt_L_law__13 0 rfl) rfl ?_
  refine ev_clI (F1 := F_L_good) (fun rY mY hY => ea_runSH (As := [.ref 0, .int x257, .int x258, .ref 287]) (ea_at dt_L_law__13 1 rfl) ml_L_202 mv_L_good (ok_L_good G x257 x258 m256 rY mY hY) rfl rfl (Nat.le_of_ble_eq_true rfl) (ea_okK rfl (show 400 + Int32.toNatClampNeg x255 + 2 ≤ 601024 from by omega) (show 30000 + 6 * Int32.toNatClampNeg x255 + 12 ≤ 7293034 from by omega))) rfl (fun r260 m259 => ?_)
  refine ev_istore (ls' := [some (.ref 2000), some (.ref 0), some (.ref 272), some (.ref 287), some (.int x255), some (.int r260), none]) (ea_at dt_L_law__13 2 rfl) (ea_lt rfl) rfl ?_
  refine ev_aload_n (ea_at dt_L_law__13 3 rfl) rfl ?_
  refine ev_aload_n (ea_at dt_L_law__13 4 rfl) rfl ?_
  refine ev_iload (ea_at dt_L_law__13 5 rfl) rfl ?_
  refine ev_iconst (ea_at dt_L_law__13 6 rfl) ic_1 ?_
  refine ev_iadd (ea_at dt_L_law__13 7 rfl) ?_
  refine ev_script (ea_at dt_L_law__13 8 rfl) ?_
  refine ev_i (fun x261 => ?_)
  refine ev_aload_n (ea_at dt_L_law__13 9 rfl) rfl ?_
  refine ev_iload (ea_at dt_L_law__13 10 rfl) rfl ?_
  refine ev_iconst (ea_at dt_L_law__13 11 rfl) ic_2 ?_
  refine ev_iadd (ea_at dt_L_law__13 12 rfl) ?_
  refine ev_script (ea_at dt_L_law__13 13 rfl) ?_
  refine ev_i (fun x262 => ?_)
  refine ev_clI (F1 := F_X12_good) (fun rY mY hY => ea_runV (As := [.int x261, .int x262]) (ea_at dt_L_law__13 14 rfl) ml_L_204 mv_X12_good (ok_X12_good G x261 x262 m259 rY mY hY) sh_272 rfl rfl rfl (Nat.le_of_ble_eq_true rfl) (ea_okK rfl (show 400 + Int32.toNatClampNeg x255 + 2 + 0 ≤ 601024 from by omega) (show 30000 + 6 * Int32.toNatClampNeg x255 + 12 + 0 ≤ 7293034 from by omega))) rfl (fun r264 m263 => ?_)
  refine ev_istore (ls' := [some (.ref 2000), some (.ref 0), some (.ref 272), some (.ref 287), some (.int x255), some (.int r260), some (.int r264)]) (ea_at dt_L_law__13 15 rfl) (ea_lt rfl) rfl ?_
  refine ev_aload_n (ea_at dt_L_law__13 16 rfl) rfl ?_
  refine ev_clI (F1 := F_X12_thrown) (fun rY mY hY => ea_runV (As := []) (ea_at dt_L_law__13 17 rfl) ml_L_148 mv_X12_thrown (ok_X12_thrown G m263 rY mY hY) sh_272 rfl rfl rfl (Nat.le_of_ble_eq_true rfl) (ea_okK rfl (show 400 + Int32.toNatClampNeg x255 + 2 + 0 + 0 ≤ 601024 from by omega) (show 30000 + 6 * Int32.toNatClampNeg x255 + 12 + 0 + 0 ≤ 7293034 from by omega))) rfl (fun r266 m265 => ?_)
  refine ev_iload (ea_at dt_L_law__13 18 rfl) rfl ?_
  refine ev_icmp_eq (tgt := 1403) (ea_at dt_L_law__13 19 rfl) rfl (fun _ => ?_) (fun _ => ?_)
  · refine ev_iload (ea_at dt_L_law__13 22 rfl) rfl ?_
    refine ev_if_ne (tgt := 1420) (ea_at dt_L_law__13 23 rfl) rfl (fun _ => ?_) (fun _ => ?_)
    · refine ev_aload_n (ea_at dt_L_law__13 24 rfl) rfl ?_
      refine ev_iconst (ea_at dt_L_law__13 25 rfl) ic_0 ?_
      refine ev_laloadC (j := 0) (ea_at dt_L_law__13 26 rfl) sh_287 (by decide) (by decide) (by decide) ?_
      refine ev_iload (ea_at dt_L_law__13 27 rfl) rfl ?_
      refine ev_i2l (ea_at dt_L_law__13 28 rfl) ?_
      refine ev_lcmp (ea_at dt_L_law__13 29 rfl) ?_
      refine ev_if_eq (tgt := 1420) (ea_at dt_L_law__13 30 rfl) rfl (fun _ => ?_) (fun _ => ?_)
      · refine ev_wid (k' := 400 + Int32.toNatClampNeg x255 + 6) (n' := 30000 + 6 * Int32.toNatClampNeg x255 + 36) (show 400 + Int32.toNatClampNeg x255 + 2 + 0 + 0 ≤ 400 + Int32.toNatClampNeg x255 + 6 from by omega) (show 30000 + 6 * Int32.toNatClampNeg x255 + 12 + 0 + 0 ≤ 30000 + 6 * Int32.toNatClampNeg x255 + 36 from by omega) ?_
        exact ev_drop (l' := [some (.ref 2000), some (.ref 0), some (.ref 272), some (.ref 287), some (.int x255), none, none]) ⟨Or.inr rfl, Or.inr rfl, Or.inr rfl, Or.inr rfl, Or.inr rfl, Or.inl rfl, Or.inl rfl, trivial⟩ (jn_L_law__1420 G x255 m265 hx255 hC hR hX)
      · refine ev_iconst (ea_at dt_L_law__13 31 rfl) ic_0 ?_
        exact ev_zret (by decide) (ea_at dt_L_law__13 32 rfl) rfl ⟨show 400 + Int32.toNatClampNeg x255 + 2 + 0 + 0 ≤ 601024 from by omega, show 30000 + 6 * Int32.toNatClampNeg x255 + 12 + 0 + 0 ≤ 7293034 from by omega⟩ (fun h => hR _ h)
    · refine ev_wid (k' := 400 + Int32.toNatClampNeg x255 + 6) (n' := 30000 + 6 * Int32.toNatClampNeg x255 + 36) (show 400 + Int32.toNatClampNeg x255 + 2 + 0 + 0 ≤ 400 + Int32.toNatClampNeg x255 + 6 from by omega) (show 30000 + 6 * Int32.toNatClampNeg x255 + 12 + 0 + 0 ≤ 30000 + 6 * Int32.toNatClampNeg x255 + 36 from by omega) ?_
      exact ev_drop (l' := [some (.ref 2000), some (.ref 0), some (.ref 272), some (.ref 287), some (.int x255), none, none]) ⟨Or.inr rfl, Or.inr rfl, Or.inr rfl, Or.inr rfl, Or.inr rfl, Or.inl rfl, Or.inl rfl, trivial⟩ (jn_L_law__1420 G x255 m265 hx255 hC hR hX)
  · refine ev_iconst (ea_at dt_L_law__13 20 rfl) ic_0 ?_
    exact ev_zret (by decide) (ea_at dt_L_law__13 21 rfl) rfl ⟨show 400 + Int32.toNatClampNeg x255 + 2 + 0 + 0 ≤ 601024 from by omega, show 30000 + 6 * Int32.toNatClampNeg x255 + 12 + 0 + 0 ≤ 7293034 from by omega⟩ (fun h => hR _ h)
set_option maxHeartbeats 300000 in
theorem jn_L_law__1504 (G : ea_G) {res : ea_O}  (x290 : Int32) (m291 : ea_M) (hx290 : Int32.toNatClampNeg x290 ≤ 4000) {Φ : ((Int32 × ea_M) ⊕ ((Int32 × ea_M) ⊕ (ea_M))) → Prop} (hC : ∀ s23 : Int32 × ea_M, Φ (.inl s23) → ea_Ev G F_L_law_ res 23 [some (.ref 2000), some (.ref 0), some (.ref 272), some (.ref 287), some (.int s23.1), none, none] [] s23.2 (400 + Int32.toNatClampNeg s23.1) (30000 + 6 * Int32.toNatClampNeg s23.1)) (hR : ∀ t : Int32 × ea_M, Φ (.inr (.inl t)) → res = (0, t)) (hX : ∀ x23s : ea_M, Φ (.inr (.inr x23s)) → ea_Ev G F_L_law_ res 2851 [none, none, none, none, none, none, none] [] x23s 5000 60000) : ea_E G F_L_law_ res 1504 [some (.ref 2000), some (.ref 0), some (.ref 272), some (.ref 287), some (.int x290), none, none] [] m291 (400 + Int32.toNatClampNeg x290 + 6) (30000 + 6 * Int32.toNatClampNeg x290 + 36) (f_L_law__j1504 G x290 m291) Φ := by
  unfold f_L_law__j1504
  refine ev_goto (tgt := 2845) (ea_at dt_L_law__14 26 rfl) rfl ?_
  refine ev_wid (k' := 400 + Int32.toNatClampNeg x290 + 6) (n' := 30000 + 6 * Int32.toNatClampNeg x290 + 36) (show 400 + Int32.toNatClampNeg x290 + 6 ≤ 400 + Int32.toNatClampNeg x290 + 6 from by omega) (show 30000 + 6 * Int32.toNatClampNeg x290 + 36 ≤ 30000 + 6 * Int32.toNatClampNeg x290 + 36 from by omega) ?_
  exact ev_drop (l' := [some (.ref 2000), some (.ref 0), some (.ref 272), some (.ref 287), some (.int x290), none, none]) ⟨Or.inr rfl, Or.inr rfl, Or.inr rfl, Or.inr rfl, Or.inr rfl, Or.inl rfl, Or.inl rfl, trivial⟩ (jn_L_law__2845 G x290 m291 hx290 hC hR hX)
set_option maxHeartbeats 300000 in
theorem jn_L_law__1471 (G : ea_G) {res : ea_O}  (x281 : Int32) (x282 : Int32) (x283 : Int32) (x284 : Int32) (m285 : ea_M) (hx281 : Int32.toNatClampNeg x281 ≤ 4000) {Φ : ((Int32 × ea_M) ⊕ ((Int32 × ea_M) ⊕ (ea_M))) → Prop} (hC : ∀ s23 : Int32 × ea_M, Φ (.inl s23) → ea_Ev G F_L_law_ res 23 [some (.ref 2000), some (.ref 0), some (.ref 272), some (.ref 287), some (.int s23.1), none, none] [] s23.2 (400 + Int32.toNatClampNeg s23.1) (30000 + 6 * Int32.toNatClampNeg s23.1)) (hR : ∀ t : Int32 × ea_M, Φ (.inr (.inl t)) → res = (0, t)) (hX : ∀ x23s : ea_M, Φ (.inr (.inr x23s)) → ea_Ev G F_L_law_ res 2851 [none, none, none, none, none, none, none] [] x23s 5000 60000) : ea_E G F_L_law_ res 1471 [some (.ref 2000), some (.ref 0), some (.ref 272), some (.ref 287), some (.int x281), some (.int x282), none] [.int x284, .int x283, .ref 272] m285 (400 + Int32.toNatClampNeg x281 + 1) (30000 + 6 * Int32.toNatClampNeg x281 + 6) (f_L_law__j1471 G x281 x282 x283 x284 m285) Φ := by
  unfold f_L_law__j1471
  refine ev_clI (F1 := F_X12_straight) (fun rY mY hY => ea_runV (As := [.int x283, .int x284]) (ea_at dt_L_law__14 7 rfl) ml_L_208 mv_X12_straight (ok_X12_straight G x283 x284 m285 rY mY hY) sh_272 rfl rfl rfl (Nat.le_of_ble_eq_true rfl) (ea_okK rfl (show 400 + Int32.toNatClampNeg x281 + 1 + 0 ≤ 601024 from by omega) (show 30000 + 6 * Int32.toNatClampNeg x281 + 6 + 0 ≤ 7293034 from by omega))) rfl (fun r287 m286 => ?_)
  refine ev_istore (ls' := [some (.ref 2000), some (.ref 0), some (.ref 272), some (.ref 287), some (.int x281), some (.int x282), some (.int r287)]) (ea_at dt_L_law__14 8 rfl) (ea_lt rfl) rfl ?_
  refine ev_aload_n (ea_at dt_L_law__14 9 rfl) rfl ?_
  refine ev_clI (F1 := F_X12_thrown) (fun rY mY hY => ea_runV (As := []) (ea_at dt_L_law__14 10 rfl) ml_L_148 mv_X12_thrown (ok_X12_thrown G m286 rY mY hY) sh_272 rfl rfl rfl (Nat.le_of_ble_eq_true rfl) (ea_okK rfl (show 400 + Int32.toNatClampNeg x281 + 1 + 0 + 0 ≤ 601024 from by omega) (show 30000 + 6 * Int32.toNatClampNeg x281 + 6 + 0 + 0 ≤ 7293034 from by omega))) rfl (fun r289 m288 => ?_)
  refine ev_iload (ea_at dt_L_law__14 11 rfl) rfl ?_
  refine ev_icmp_eq (tgt := 1487) (ea_at dt_L_law__14 12 rfl) rfl (fun _ => ?_) (fun _ => ?_)
  · refine ev_iload (ea_at dt_L_law__14 15 rfl) rfl ?_
    refine ev_if_ne (tgt := 1504) (ea_at dt_L_law__14 16 rfl) rfl (fun _ => ?_) (fun _ => ?_)
    · refine ev_aload_n (ea_at dt_L_law__14 17 rfl) rfl ?_
      refine ev_iconst (ea_at dt_L_law__14 18 rfl) ic_0 ?_
      refine ev_laloadC (j := 0) (ea_at dt_L_law__14 19 rfl) sh_287 (by decide) (by decide) (by decide) ?_
      refine ev_iload (ea_at dt_L_law__14 20 rfl) rfl ?_
      refine ev_i2l (ea_at dt_L_law__14 21 rfl) ?_
      refine ev_lcmp (ea_at dt_L_law__14 22 rfl) ?_
      refine ev_if_eq (tgt := 1504) (ea_at dt_L_law__14 23 rfl) rfl (fun _ => ?_) (fun _ => ?_)
      · refine ev_wid (k' := 400 + Int32.toNatClampNeg x281 + 6) (n' := 30000 + 6 * Int32.toNatClampNeg x281 + 36) (show 400 + Int32.toNatClampNeg x281 + 1 + 0 + 0 ≤ 400 + Int32.toNatClampNeg x281 + 6 from by omega) (show 30000 + 6 * Int32.toNatClampNeg x281 + 6 + 0 + 0 ≤ 30000 + 6 * Int32.toNatClampNeg x281 + 36 from by omega) ?_
        exact ev_drop (l' := [some (.ref 2000), some (.ref 0), some (.ref 272), some (.ref 287), some (.int x281), none, none]) ⟨Or.inr rfl, Or.inr rfl, Or.inr rfl, Or.inr rfl, Or.inr rfl, Or.inl rfl, Or.inl rfl, trivial⟩ (jn_L_law__1504 G x281 m288 hx281 hC hR hX)
      · refine ev_iconst (ea_at dt_L_law__14 24 rfl) ic_0 ?_
        exact ev_zret (by decide) (ea_at dt_L_law__14 25 rfl) rfl ⟨show 400 + Int32.toNatClampNeg x281 + 1 + 0 + 0 ≤ 601024 from by omega, show 30000 + 6 * Int32.toNatClampNeg x281 + 6 + 0 + 0 ≤ 7293034 from by omega⟩ (fun h => hR _ h)
    · refine ev_wid (k' := 400 + Int32.toNatClampNeg x281 + 6) (n' := 30000 + 6 * Int32.toNatClampNeg x281 + 36) (show 400 + Int32.toNatClampNeg x281 + 1 + 0 + 0 ≤ 400 + Int32.toNatClampNeg x281 + 6 from by omega) (show 30000 + 6 * Int32.toNatClampNeg x281 + 6 + 0 + 0 ≤ 30000 + 6 * Int32.toNatClampNeg x281 + 36 from by omega) ?_
      exact ev_drop (l' := [some (.ref 2000), some (.ref 0), some (.ref 272), some (.ref 287), some (.int x281), none, none]) ⟨Or.inr rfl, Or.inr rfl, Or.inr rfl, Or.inr rfl, Or.inr rfl, Or.inl rfl, Or.inl rfl, trivial⟩ (jn_L_law__1504 G x281 m288 hx281 hC hR hX)
  · refine ev_iconst (ea_at dt_L_law__14 13 rfl) ic_0 ?_
    exact ev_zret (by decide) (ea_at dt_L_law__14 14 rfl) rfl ⟨show 400 + Int32.toNatClampNeg x281 + 1 + 0 + 0 ≤ 601024 from by omega, show 30000 + 6 * Int32.toNatClampNeg x281 + 6 + 0 + 0 ≤ 7293034 from by omega⟩ (fun h => hR _ h)
set_option maxHeartbeats 300000 in
theorem jn_L_law__1444 (G : ea_G) {res : ea_O}  (x273 : Int32) (x274 : Int32) (x275 : Int32) (m276 : ea_M) (hx273 : Int32.toNatClampNeg x273 ≤ 4000) {Φ : ((Int32 × ea_M) ⊕ ((Int32 × ea_M) ⊕ (ea_M))) → Prop} (hC : ∀ s23 : Int32 × ea_M, Φ (.inl s23) → ea_Ev G F_L_law_ res 23 [some (.ref 2000), some (.ref 0), some (.ref 272), some (.ref 287), some (.int s23.1), none, none] [] s23.2 (400 + Int32.toNatClampNeg s23.1) (30000 + 6 * Int32.toNatClampNeg s23.1)) (hR : ∀ t : Int32 × ea_M, Φ (.inr (.inl t)) → res = (0, t)) (hX : ∀ x23s : ea_M, Φ (.inr (.inr x23s)) → ea_Ev G F_L_law_ res 2851 [none, none, none, none, none, none, none] [] x23s 5000 60000) : ea_E G F_L_law_ res 1444 [some (.ref 2000), some (.ref 0), some (.ref 272), some (.ref 287), some (.int x273), none, none] [.int x275, .int x274, .ref 0] m276 (400 + Int32.toNatClampNeg x273) (30000 + 6 * Int32.toNatClampNeg x273) (f_L_law__j1444 G x273 x274 x275 m276) Φ := by
  unfold f_L_law__j1444
  refine ev_aload_n (ea_at dt_L_law__13 49 rfl) rfl ?_
  refine ev_clI (F1 := F_L_straight) (fun rY mY hY => ea_runSH (As := [.ref 0, .int x274, .int x275, .ref 287]) (ea_at dt_L_law__13 50 rfl) ml_L_205 mv_L_straight (ok_L_straight G x274 x275 m276 rY mY hY) rfl rfl (Nat.le_of_ble_eq_true rfl) (ea_okK rfl (show 400 + Int32.toNatClampNeg x273 + 1 ≤ 601024 from by omega) (show 30000 + 6 * Int32.toNatClampNeg x273 + 6 ≤ 7293034 from by omega))) rfl (fun r278 m277 => ?_)
  refine ev_istore (ls' := [some (.ref 2000), some (.ref 0), some (.ref 272), some (.ref 287), some (.int x273), some (.int r278), none]) (ea_at dt_L_law__13 51 rfl) (ea_lt rfl) rfl ?_
  refine ev_aload_n (ea_at dt_L_law__13 52 rfl) rfl ?_
  refine ev_aload_n (ea_at dt_L_law__13 53 rfl) rfl ?_
  refine ev_iload (ea_at dt_L_law__13 54 rfl) rfl ?_
  refine ev_iconst (ea_at dt_L_law__13 55 rfl) ic_1 ?_
  refine ev_iadd (ea_at dt_L_law__13 56 rfl) ?_
  refine ev_script (ea_at dt_L_law__13 57 rfl) ?_
  refine ev_i (fun x279 => ?_)
  refine ev_aload_n (ea_at dt_L_law__13 58 rfl) rfl ?_
  refine ev_iload (ea_at dt_L_law__13 59 rfl) rfl ?_
  refine ev_iconst (ea_at dt_L_law__14 0 rfl) ic_2 ?_
  refine ev_iadd (ea_at dt_L_law__14 1 rfl) ?_
  refine ev_script (ea_at dt_L_law__14 2 rfl) ?_
  refine ev_i (fun x280 => ?_)
  refine ev_if_eq (tgt := 1470) (ea_at dt_L_law__14 3 rfl) rfl (fun _ => ?_) (fun _ => ?_)
  · refine ev_iconst (ea_at dt_L_law__14 6 rfl) ic_0 ?_
    refine ev_wid (k' := 400 + Int32.toNatClampNeg x273 + 1) (n' := 30000 + 6 * Int32.toNatClampNeg x273 + 6) (show 400 + Int32.toNatClampNeg x273 + 1 ≤ 400 + Int32.toNatClampNeg x273 + 1 from by omega) (show 30000 + 6 * Int32.toNatClampNeg x273 + 6 ≤ 30000 + 6 * Int32.toNatClampNeg x273 + 6 from by omega) ?_
    exact ev_drop (l' := [some (.ref 2000), some (.ref 0), some (.ref 272), some (.ref 287), some (.int x273), some (.int r278), none]) ⟨Or.inr rfl, Or.inr rfl, Or.inr rfl, Or.inr rfl, Or.inr rfl, Or.inr rfl, Or.inl rfl, trivial⟩ (jn_L_law__1471 G x273 r278 x279 0 m277 hx273 hC hR hX)
  · refine ev_iconst (ea_at dt_L_law__14 4 rfl) ic_1 ?_
    refine ev_goto (tgt := 1471) (ea_at dt_L_law__14 5 rfl) rfl ?_
    refine ev_wid (k' := 400 + Int32.toNatClampNeg x273 + 1) (n' := 30000 + 6 * Int32.toNatClampNeg x273 + 6) (show 400 + Int32.toNatClampNeg x273 + 1 ≤ 400 + Int32.toNatClampNeg x273 + 1 from by omega) (show 30000 + 6 * Int32.toNatClampNeg x273 + 6 ≤ 30000 + 6 * Int32.toNatClampNeg x273 + 6 from by omega) ?_
    exact ev_drop (l' := [some (.ref 2000), some (.ref 0), some (.ref 272), some (.ref 287), some (.int x273), some (.int r278), none]) ⟨Or.inr rfl, Or.inr rfl, Or.inr rfl, Or.inr rfl, Or.inr rfl, Or.inr rfl, Or.inl rfl, trivial⟩ (jn_L_law__1471 G x273 r278 x279 1 m277 hx273 hC hR hX)
set_option maxHeartbeats 300000 in
theorem jn_L_law__1423 (G : ea_G) {res : ea_O}  (x269 : Int32) (m270 : ea_M) (hx269 : Int32.toNatClampNeg x269 ≤ 4000) {Φ : ((Int32 × ea_M) ⊕ ((Int32 × ea_M) ⊕ (ea_M))) → Prop} (hC : ∀ s23 : Int32 × ea_M, Φ (.inl s23) → ea_Ev G F_L_law_ res 23 [some (.ref 2000), some (.ref 0), some (.ref 272), some (.ref 287), some (.int s23.1), none, none] [] s23.2 (400 + Int32.toNatClampNeg s23.1) (30000 + 6 * Int32.toNatClampNeg s23.1)) (hR : ∀ t : Int32 × ea_M, Φ (.inr (.inl t)) → res = (0, t)) (hX : ∀ x23s : ea_M, Φ (.inr (.inr x23s)) → ea_Ev G F_L_law_ res 2851 [none, none, none, none, none, none, none] [] x23s 5000 60000) : ea_E G F_L_law_ res 1423 [some (.ref 2000), some (.ref 0), some (.ref 272), some (.ref 287), some (.int x269), none, none] [] m270 (400 + Int32.toNatClampNeg x269) (30000 + 6 * Int32.toNatClampNeg x269) (f_L_law__j1423 G x269 m270) Φ := by
  unfold f_L_law__j1423
  refine ev_aload_n (ea_at dt_L_law__13 34 rfl) rfl ?_
  refine ev_aload_n (ea_at dt_L_law__13 35 rfl) rfl ?_
  refine ev_iload (ea_at dt_L_law__13 36 rfl) rfl ?_
  refine ev_iconst (ea_at dt_L_law__13 37 rfl) ic_1 ?_
  refine ev_iadd (ea_at dt_L_law__13 38 rfl) ?_
  refine ev_script (ea_at dt_L_law__13 39 rfl) ?_
  refine ev_i (fun x271 => ?_)
  refine ev_aload_n (ea_at dt_L_law__13 40 rfl) rfl ?_
  refine ev_iload (ea_at dt_L_law__13 41 rfl) rfl ?_
  refine ev_iconst (ea_at dt_L_law__13 42 rfl) ic_2 ?_
  refine ev_iadd (ea_at dt_L_law__13 43 rfl) ?_
  refine ev_script (ea_at dt_L_law__13 44 rfl) ?_
  refine ev_i (fun x272 => ?_)
  refine ev_if_eq (tgt := 1443) (ea_at dt_L_law__13 45 rfl) rfl (fun _ => ?_) (fun _ => ?_)
  · refine ev_iconst (ea_at dt_L_law__13 48 rfl) ic_0 ?_
    refine ev_wid (k' := 400 + Int32.toNatClampNeg x269) (n' := 30000 + 6 * Int32.toNatClampNeg x269) (show 400 + Int32.toNatClampNeg x269 ≤ 400 + Int32.toNatClampNeg x269 from by omega) (show 30000 + 6 * Int32.toNatClampNeg x269 ≤ 30000 + 6 * Int32.toNatClampNeg x269 from by omega) ?_
    exact ev_drop (l' := [some (.ref 2000), some (.ref 0), some (.ref 272), some (.ref 287), some (.int x269), none, none]) ⟨Or.inr rfl, Or.inr rfl, Or.inr rfl, Or.inr rfl, Or.inr rfl, Or.inl rfl, Or.inl rfl, trivial⟩ (jn_L_law__1444 G x269 x271 0 m270 hx269 hC hR hX)
  · refine ev_iconst (ea_at dt_L_law__13 46 rfl) ic_1 ?_
    refine ev_goto (tgt := 1444) (ea_at dt_L_law__13 47 rfl) rfl ?_
    refine ev_wid (k' := 400 + Int32.toNatClampNeg x269) (n' := 30000 + 6 * Int32.toNatClampNeg x269) (show 400 + Int32.toNatClampNeg x269 ≤ 400 + Int32.toNatClampNeg x269 from by omega) (show 30000 + 6 * Int32.toNatClampNeg x269 ≤ 30000 + 6 * Int32.toNatClampNeg x269 from by omega) ?_
    exact ev_drop (l' := [some (.ref 2000), some (.ref 0), some (.ref 272), some (.ref 287), some (.int x269), none, none]) ⟨Or.inr rfl, Or.inr rfl, Or.inr rfl, Or.inr rfl, Or.inr rfl, Or.inl rfl, Or.inl rfl, trivial⟩ (jn_L_law__1444 G x269 x271 1 m270 hx269 hC hR hX)
set_option maxHeartbeats 300000 in
theorem jn_L_law__1584 (G : ea_G) {res : ea_O}  (x306 : Int32) (m307 : ea_M) (hx306 : Int32.toNatClampNeg x306 ≤ 4000) {Φ : ((Int32 × ea_M) ⊕ ((Int32 × ea_M) ⊕ (ea_M))) → Prop} (hC : ∀ s23 : Int32 × ea_M, Φ (.inl s23) → ea_Ev G F_L_law_ res 23 [some (.ref 2000), some (.ref 0), some (.ref 272), some (.ref 287), some (.int s23.1), none, none] [] s23.2 (400 + Int32.toNatClampNeg s23.1) (30000 + 6 * Int32.toNatClampNeg s23.1)) (hR : ∀ t : Int32 × ea_M, Φ (.inr (.inl t)) → res = (0, t)) (hX : ∀ x23s : ea_M, Φ (.inr (.inr x23s)) → ea_Ev G F_L_law_ res 2851 [none, none, none, none, none, none, none] [] x23s 5000 60000) : ea_E G F_L_law_ res 1584 [some (.ref 2000), some (.ref 0), some (.ref 272), some (.ref 287), some (.int x306), none, none] [] m307 (400 + Int32.toNatClampNeg x306 + 6) (30000 + 6 * Int32.toNatClampNeg x306 + 36) (f_L_law__j1584 G x306 m307) Φ := by
  unfold f_L_law__j1584
  refine ev_goto (tgt := 2845) (ea_at dt_L_law__15 21 rfl) rfl ?_
  refine ev_wid (k' := 400 + Int32.toNatClampNeg x306 + 6) (n' := 30000 + 6 * Int32.toNatClampNeg x306 + 36) (show 400 + Int32.toNatClampNeg x306 + 6 ≤ 400 + Int32.toNatClampNeg x306 + 6 from by omega) (show 30000 + 6 * Int32.toNatClampNeg x306 + 36 ≤ 30000 + 6 * Int32.toNatClampNeg x306 + 36 from by omega) ?_
  exact ev_drop (l' := [some (.ref 2000), some (.ref 0), some (.ref 272), some (.ref 287), some (.int x306), none, none]) ⟨Or.inr rfl, Or.inr rfl, Or.inr rfl, Or.inr rfl, Or.inr rfl, Or.inl rfl, Or.inl rfl, trivial⟩ (jn_L_law__2845 G x306 m307 hx306 hC hR hX)
set_option maxHeartbeats 300000 in
theorem jn_L_law__1507 (G : ea_G) {res : ea_O}  (x292 : Int32) (m293 : ea_M) (hx292 : Int32.toNatClampNeg x292 ≤ 4000) {Φ : ((Int32 × ea_M) ⊕ ((Int32 × ea_M) ⊕ (ea_M))) → Prop} (hC : ∀ s23 : Int32 × ea_M, Φ (.inl s23) → ea_Ev G F_L_law_ res 23 [some (.ref 2000), some (.ref 0), some (.ref 272), some (.ref 287), some (.int s23.1), none, none] [] s23.2 (400 + Int32.toNatClampNeg s23.1) (30000 + 6 * Int32.toNatClampNeg s23.1)) (hR : ∀ t : Int32 × ea_M, Φ (.inr (.inl t)) → res = (0, t)) (hX : ∀ x23s : ea_M, Φ (.inr (.inr x23s)) → ea_Ev G F_L_law_ res 2851 [none, none, none, none, none, none, none] [] x23s 5000 60000) : ea_E G F_L_law_ res 1507 [some (.ref 2000), some (.ref 0), some (.ref 272), some (.ref 287), some (.int x292), none, none] [] m293 (400 + Int32.toNatClampNeg x292) (30000 + 6 * Int32.toNatClampNeg x292) (f_L_law__j1507 G x292 m293) Φ := by
  unfold f_L_law__j1507
  refine ev_aload_n (ea_at dt_L_law__14 27 rfl) rfl ?_
  refine ev_aload_n (ea_at dt_L_law__14 28 rfl) rfl ?_
  refine ev_iload (ea_at dt_L_law__14 29 rfl) rfl ?_
  refine ev_iconst (ea_at dt_L_law__14 30 rfl) ic_1 ?_
  refine ev_iadd (ea_at dt_L_law__14 31 rfl) ?_
  refine ev_script (ea_at dt_L_law__14 32 rfl) ?_
  refine ev_i (fun x294 => ?_)
  refine ev_aload_n (ea_at dt_L_law__14 33 rfl) rfl ?_
  refine ev_iload (ea_at dt_L_law__14 34 rfl) rfl ?_
  refine ev_iconst (ea_at dt_L_law__14 35 rfl) ic_2 ?_
  refine ev_iadd (ea_at dt_L_law__14 36 rfl) ?_
  refine ev_script (ea_at dt_L_law__14 37 rfl) ?_
  refine ev_i (fun x295 => ?_)
  refine ev_aload_n (ea_at dt_L_law__14 38 rfl) rfl ?_
  refine ev_iload (ea_at dt_L_law__14 39 rfl) rfl ?_
  refine ev_iconst (ea_at dt_L_law__14 40 rfl) ic_3 ?_
  refine ev_iadd (ea_at dt_L_law__14 41 rfl) ?_
  refine ev_script (ea_at dt_L_law__14 42 rfl) ?_
  refine ev_i (fun x296 => ?_)
  refine ev_aload_n (ea_at dt_L_law__14 43 rfl) rfl ?_
  refine ev_clI (F1 := F_L_odds) (fun rY mY hY => ea_runSH (As := [.ref 0, .int x294, .int x295, .int x296, .ref 287]) (ea_at dt_L_law__14 44 rfl) ml_L_209 mv_L_odds (ok_L_odds G x294 x295 x296 m293 rY mY hY) rfl rfl (Nat.le_of_ble_eq_true rfl) (ea_okK rfl (show 400 + Int32.toNatClampNeg x292 + 3 ≤ 601024 from by omega) (show 30000 + 6 * Int32.toNatClampNeg x292 + 18 ≤ 7293034 from by omega))) rfl (fun r298 m297 => ?_)
  refine ev_istore (ls' := [some (.ref 2000), some (.ref 0), some (.ref 272), some (.ref 287), some (.int x292), some (.int r298), none]) (ea_at dt_L_law__14 45 rfl) (ea_lt rfl) rfl ?_
  refine ev_aload_n (ea_at dt_L_law__14 46 rfl) rfl ?_
  refine ev_aload_n (ea_at dt_L_law__14 47 rfl) rfl ?_
  refine ev_iload (ea_at dt_L_law__14 48 rfl) rfl ?_
  refine ev_iconst (ea_at dt_L_law__14 49 rfl) ic_1 ?_
  refine ev_iadd (ea_at dt_L_law__14 50 rfl) ?_
  refine ev_script (ea_at dt_L_law__14 51 rfl) ?_
  refine ev_i (fun x299 => ?_)
  refine ev_aload_n (ea_at dt_L_law__14 52 rfl) rfl ?_
  refine ev_iload (ea_at dt_L_law__14 53 rfl) rfl ?_
  refine ev_iconst (ea_at dt_L_law__14 54 rfl) ic_2 ?_
  refine ev_iadd (ea_at dt_L_law__14 55 rfl) ?_
  refine ev_script (ea_at dt_L_law__14 56 rfl) ?_
  refine ev_i (fun x300 => ?_)
  refine ev_aload_n (ea_at dt_L_law__14 57 rfl) rfl ?_
  refine ev_iload (ea_at dt_L_law__14 58 rfl) rfl ?_
  refine ev_iconst (ea_at dt_L_law__14 59 rfl) ic_3 ?_
  refine ev_iadd (ea_at dt_L_law__15 0 rfl) ?_
  refine ev_script (ea_at dt_L_law__15 1 rfl) ?_
  refine ev_i (fun x301 => ?_)
  refine ev_clI (F1 := F_X12_odds) (fun rY mY hY => ea_runV (As := [.int x299, .int x300, .int x301]) (ea_at dt_L_law__15 2 rfl) ml_L_211 mv_X12_odds (ok_X12_odds G x299 x300 x301 m297 rY mY hY) sh_272 rfl rfl rfl (Nat.le_of_ble_eq_true rfl) (ea_okK rfl (show 400 + Int32.toNatClampNeg x292 + 3 + 0 ≤ 601024 from by omega) (show 30000 + 6 * Int32.toNatClampNeg x292 + 18 + 0 ≤ 7293034 from by omega))) rfl (fun r303 m302 => ?_)
  refine ev_istore (ls' := [some (.ref 2000), some (.ref 0), some (.ref 272), some (.ref 287), some (.int x292), some (.int r298), some (.int r303)]) (ea_at dt_L_law__15 3 rfl) (ea_lt rfl) rfl ?_
  refine ev_aload_n (ea_at dt_L_law__15 4 rfl) rfl ?_
  refine ev_clI (F1 := F_X12_thrown) (fun rY mY hY => ea_runV (As := []) (ea_at dt_L_law__15 5 rfl) ml_L_148 mv_X12_thrown (ok_X12_thrown G m302 rY mY hY) sh_272 rfl rfl rfl (Nat.le_of_ble_eq_true rfl) (ea_okK rfl (show 400 + Int32.toNatClampNeg x292 + 3 + 0 + 0 ≤ 601024 from by omega) (show 30000 + 6 * Int32.toNatClampNeg x292 + 18 + 0 + 0 ≤ 7293034 from by omega))) rfl (fun r305 m304 => ?_)
  refine ev_iload (ea_at dt_L_law__15 6 rfl) rfl ?_
  refine ev_icmp_eq (tgt := 1567) (ea_at dt_L_law__15 7 rfl) rfl (fun _ => ?_) (fun _ => ?_)
  · refine ev_iload (ea_at dt_L_law__15 10 rfl) rfl ?_
    refine ev_if_ne (tgt := 1584) (ea_at dt_L_law__15 11 rfl) rfl (fun _ => ?_) (fun _ => ?_)
    · refine ev_aload_n (ea_at dt_L_law__15 12 rfl) rfl ?_
      refine ev_iconst (ea_at dt_L_law__15 13 rfl) ic_0 ?_
      refine ev_laloadC (j := 0) (ea_at dt_L_law__15 14 rfl) sh_287 (by decide) (by decide) (by decide) ?_
      refine ev_iload (ea_at dt_L_law__15 15 rfl) rfl ?_
      refine ev_i2l (ea_at dt_L_law__15 16 rfl) ?_
      refine ev_lcmp (ea_at dt_L_law__15 17 rfl) ?_
      refine ev_if_eq (tgt := 1584) (ea_at dt_L_law__15 18 rfl) rfl (fun _ => ?_) (fun _ => ?_)
      · refine ev_wid (k' := 400 + Int32.toNatClampNeg x292 + 6) (n' := 30000 + 6 * Int32.toNatClampNeg x292 + 36) (show 400 + Int32.toNatClampNeg x292 + 3 + 0 + 0 ≤ 400 + Int32.toNatClampNeg x292 + 6 from by omega) (show 30000 + 6 * Int32.toNatClampNeg x292 + 18 + 0 + 0 ≤ 30000 + 6 * Int32.toNatClampNeg x292 + 36 from by omega) ?_
        exact ev_drop (l' := [some (.ref 2000), some (.ref 0), some (.ref 272), some (.ref 287), some (.int x292), none, none]) ⟨Or.inr rfl, Or.inr rfl, Or.inr rfl, Or.inr rfl, Or.inr rfl, Or.inl rfl, Or.inl rfl, trivial⟩ (jn_L_law__1584 G x292 m304 hx292 hC hR hX)
      · refine ev_iconst (ea_at dt_L_law__15 19 rfl) ic_0 ?_
        exact ev_zret (by decide) (ea_at dt_L_law__15 20 rfl) rfl ⟨show 400 + Int32.toNatClampNeg x292 + 3 + 0 + 0 ≤ 601024 from by omega, show 30000 + 6 * Int32.toNatClampNeg x292 + 18 + 0 + 0 ≤ 7293034 from by omega⟩ (fun h => hR _ h)
    · refine ev_wid (k' := 400 + Int32.toNatClampNeg x292 + 6) (n' := 30000 + 6 * Int32.toNatClampNeg x292 + 36) (show 400 + Int32.toNatClampNeg x292 + 3 + 0 + 0 ≤ 400 + Int32.toNatClampNeg x292 + 6 from by omega) (show 30000 + 6 * Int32.toNatClampNeg x292 + 18 + 0 + 0 ≤ 30000 + 6 * Int32.toNatClampNeg x292 + 36 from by omega) ?_
      exact ev_drop (l' := [some (.ref 2000), some (.ref 0), some (.ref 272), some (.ref 287), some (.int x292), none, none]) ⟨Or.inr rfl, Or.inr rfl, Or.inr rfl, Or.inr rfl, Or.inr rfl, Or.inl rfl, Or.inl rfl, trivial⟩ (jn_L_law__1584 G x292 m304 hx292 hC hR hX)
  · refine ev_iconst (ea_at dt_L_law__15 8 rfl) ic_0 ?_
    exact ev_zret (by decide) (ea_at dt_L_law__15 9 rfl) rfl ⟨show 400 + Int32.toNatClampNeg x292 + 3 + 0 + 0 ≤ 601024 from by omega, show 30000 + 6 * Int32.toNatClampNeg x292 + 18 + 0 + 0 ≤ 7293034 from by omega⟩ (fun h => hR _ h)
set_option maxHeartbeats 300000 in
theorem jn_L_law__1652 (G : ea_G) {res : ea_O}  (x320 : Int32) (m321 : ea_M) (hx320 : Int32.toNatClampNeg x320 ≤ 4000) {Φ : ((Int32 × ea_M) ⊕ ((Int32 × ea_M) ⊕ (ea_M))) → Prop} (hC : ∀ s23 : Int32 × ea_M, Φ (.inl s23) → ea_Ev G F_L_law_ res 23 [some (.ref 2000), some (.ref 0), some (.ref 272), some (.ref 287), some (.int s23.1), none, none] [] s23.2 (400 + Int32.toNatClampNeg s23.1) (30000 + 6 * Int32.toNatClampNeg s23.1)) (hR : ∀ t : Int32 × ea_M, Φ (.inr (.inl t)) → res = (0, t)) (hX : ∀ x23s : ea_M, Φ (.inr (.inr x23s)) → ea_Ev G F_L_law_ res 2851 [none, none, none, none, none, none, none] [] x23s 5000 60000) : ea_E G F_L_law_ res 1652 [some (.ref 2000), some (.ref 0), some (.ref 272), some (.ref 287), some (.int x320), none, none] [] m321 (400 + Int32.toNatClampNeg x320 + 6) (30000 + 6 * Int32.toNatClampNeg x320 + 36) (f_L_law__j1652 G x320 m321) Φ := by
  unfold f_L_law__j1652
  refine ev_goto (tgt := 2845) (ea_at dt_L_law__16 6 rfl) rfl ?_
  refine ev_wid (k' := 400 + Int32.toNatClampNeg x320 + 6) (n' := 30000 + 6 * Int32.toNatClampNeg x320 + 36) (show 400 + Int32.toNatClampNeg x320 + 6 ≤ 400 + Int32.toNatClampNeg x320 + 6 from by omega) (show 30000 + 6 * Int32.toNatClampNeg x320 + 36 ≤ 30000 + 6 * Int32.toNatClampNeg x320 + 36 from by omega) ?_
  exact ev_drop (l' := [some (.ref 2000), some (.ref 0), some (.ref 272), some (.ref 287), some (.int x320), none, none]) ⟨Or.inr rfl, Or.inr rfl, Or.inr rfl, Or.inr rfl, Or.inr rfl, Or.inl rfl, Or.inl rfl, trivial⟩ (jn_L_law__2845 G x320 m321 hx320 hC hR hX)
set_option maxHeartbeats 300000 in
theorem jn_L_law__1587 (G : ea_G) {res : ea_O}  (x308 : Int32) (m309 : ea_M) (hx308 : Int32.toNatClampNeg x308 ≤ 4000) {Φ : ((Int32 × ea_M) ⊕ ((Int32 × ea_M) ⊕ (ea_M))) → Prop} (hC : ∀ s23 : Int32 × ea_M, Φ (.inl s23) → ea_Ev G F_L_law_ res 23 [some (.ref 2000), some (.ref 0), some (.ref 272), some (.ref 287), some (.int s23.1), none, none] [] s23.2 (400 + Int32.toNatClampNeg s23.1) (30000 + 6 * Int32.toNatClampNeg s23.1)) (hR : ∀ t : Int32 × ea_M, Φ (.inr (.inl t)) → res = (0, t)) (hX : ∀ x23s : ea_M, Φ (.inr (.inr x23s)) → ea_Ev G F_L_law_ res 2851 [none, none, none, none, none, none, none] [] x23s 5000 60000) : ea_E G F_L_law_ res 1587 [some (.ref 2000), some (.ref 0), some (.ref 272), some (.ref 287), some (.int x308), none, none] [] m309 (400 + Int32.toNatClampNeg x308) (30000 + 6 * Int32.toNatClampNeg x308) (f_L_law__j1587 G x308 m309) Φ := by
  unfold f_L_law__j1587
  refine ev_aload_n (ea_at dt_L_law__15 22 rfl) rfl ?_
  refine ev_aload_n (ea_at dt_L_law__15 23 rfl) rfl ?_
  refine ev_iload (ea_at dt_L_law__15 24 rfl) rfl ?_
  refine ev_iconst (ea_at dt_L_law__15 25 rfl) ic_1 ?_
  refine ev_iadd (ea_at dt_L_law__15 26 rfl) ?_
  refine ev_script (ea_at dt_L_law__15 27 rfl) ?_
  refine ev_i (fun x310 => ?_)
  refine ev_aload_n (ea_at dt_L_law__15 28 rfl) rfl ?_
  refine ev_iload (ea_at dt_L_law__15 29 rfl) rfl ?_
  refine ev_iconst (ea_at dt_L_law__15 30 rfl) ic_2 ?_
  refine ev_iadd (ea_at dt_L_law__15 31 rfl) ?_
  refine ev_script (ea_at dt_L_law__15 32 rfl) ?_
  refine ev_i (fun x311 => ?_)
  refine ev_aload_n (ea_at dt_L_law__15 33 rfl) rfl ?_
  refine ev_clI (F1 := F_L_best) (fun rY mY hY => ea_runSH (As := [.ref 0, .int x310, .int x311, .ref 287]) (ea_at dt_L_law__15 34 rfl) ml_L_212 mv_L_best (ok_L_best G x310 x311 m309 rY mY hY) rfl rfl (Nat.le_of_ble_eq_true rfl) (ea_okK rfl (show 400 + Int32.toNatClampNeg x308 + 1 ≤ 601024 from by omega) (show 30000 + 6 * Int32.toNatClampNeg x308 + 6 ≤ 7293034 from by omega))) rfl (fun r313 m312 => ?_)
  refine ev_istore (ls' := [some (.ref 2000), some (.ref 0), some (.ref 272), some (.ref 287), some (.int x308), some (.int r313), none]) (ea_at dt_L_law__15 35 rfl) (ea_lt rfl) rfl ?_
  refine ev_aload_n (ea_at dt_L_law__15 36 rfl) rfl ?_
  refine ev_aload_n (ea_at dt_L_law__15 37 rfl) rfl ?_
  refine ev_iload (ea_at dt_L_law__15 38 rfl) rfl ?_
  refine ev_iconst (ea_at dt_L_law__15 39 rfl) ic_1 ?_
  refine ev_iadd (ea_at dt_L_law__15 40 rfl) ?_
  refine ev_script (ea_at dt_L_law__15 41 rfl) ?_
  refine ev_i (fun x314 => ?_)
  refine ev_aload_n (ea_at dt_L_law__15 42 rfl) rfl ?_
  refine ev_iload (ea_at dt_L_law__15 43 rfl) rfl ?_
  refine ev_iconst (ea_at dt_L_law__15 44 rfl) ic_2 ?_
  refine ev_iadd (ea_at dt_L_law__15 45 rfl) ?_
  refine ev_script (ea_at dt_L_law__15 46 rfl) ?_
  refine ev_i (fun x315 => ?_)
  refine ev_clI (F1 := F_X12_best) (fun rY mY hY => ea_runV (As := [.int x314, .int x315]) (ea_at dt_L_law__15 47 rfl) ml_L_214 mv_X12_best (ok_X12_best G x314 x315 m312 rY mY hY) sh_272 rfl rfl rfl (Nat.le_of_ble_eq_true rfl) (ea_okK rfl (show 400 + Int32.toNatClampNeg x308 + 1 + 0 ≤ 601024 from by omega) (show 30000 + 6 * Int32.toNatClampNeg x308 + 6 + 0 ≤ 7293034 from by omega))) rfl (fun r317 m316 => ?_)
  refine ev_istore (ls' := [some (.ref 2000), some (.ref 0), some (.ref 272), some (.ref 287), some (.int x308), some (.int r313), some (.int r317)]) (ea_at dt_L_law__15 48 rfl) (ea_lt rfl) rfl ?_
  refine ev_aload_n (ea_at dt_L_law__15 49 rfl) rfl ?_
  refine ev_clI (F1 := F_X12_thrown) (fun rY mY hY => ea_runV (As := []) (ea_at dt_L_law__15 50 rfl) ml_L_148 mv_X12_thrown (ok_X12_thrown G m316 rY mY hY) sh_272 rfl rfl rfl (Nat.le_of_ble_eq_true rfl) (ea_okK rfl (show 400 + Int32.toNatClampNeg x308 + 1 + 0 + 0 ≤ 601024 from by omega) (show 30000 + 6 * Int32.toNatClampNeg x308 + 6 + 0 + 0 ≤ 7293034 from by omega))) rfl (fun r319 m318 => ?_)
  refine ev_iload (ea_at dt_L_law__15 51 rfl) rfl ?_
  refine ev_icmp_eq (tgt := 1635) (ea_at dt_L_law__15 52 rfl) rfl (fun _ => ?_) (fun _ => ?_)
  · refine ev_iload (ea_at dt_L_law__15 55 rfl) rfl ?_
    refine ev_if_ne (tgt := 1652) (ea_at dt_L_law__15 56 rfl) rfl (fun _ => ?_) (fun _ => ?_)
    · refine ev_aload_n (ea_at dt_L_law__15 57 rfl) rfl ?_
      refine ev_iconst (ea_at dt_L_law__15 58 rfl) ic_0 ?_
      refine ev_laloadC (j := 0) (ea_at dt_L_law__15 59 rfl) sh_287 (by decide) (by decide) (by decide) ?_
      refine ev_iload (ea_at dt_L_law__16 0 rfl) rfl ?_
      refine ev_i2l (ea_at dt_L_law__16 1 rfl) ?_
      refine ev_lcmp (ea_at dt_L_law__16 2 rfl) ?_
      refine ev_if_eq (tgt := 1652) (ea_at dt_L_law__16 3 rfl) rfl (fun _ => ?_) (fun _ => ?_)
      · refine ev_wid (k' := 400 + Int32.toNatClampNeg x308 + 6) (n' := 30000 + 6 * Int32.toNatClampNeg x308 + 36) (show 400 + Int32.toNatClampNeg x308 + 1 + 0 + 0 ≤ 400 + Int32.toNatClampNeg x308 + 6 from by omega) (show 30000 + 6 * Int32.toNatClampNeg x308 + 6 + 0 + 0 ≤ 30000 + 6 * Int32.toNatClampNeg x308 + 36 from by omega) ?_
        exact ev_drop (l' := [some (.ref 2000), some (.ref 0), some (.ref 272), some (.ref 287), some (.int x308), none, none]) ⟨Or.inr rfl, Or.inr rfl, Or.inr rfl, Or.inr rfl, Or.inr rfl, Or.inl rfl, Or.inl rfl, trivial⟩ (jn_L_law__1652 G x308 m318 hx308 hC hR hX)
      · refine ev_iconst (ea_at dt_L_law__16 4 rfl) ic_0 ?_
        exact ev_zret (by decide) (ea_at dt_L_law__16 5 rfl) rfl ⟨show 400 + Int32.toNatClampNeg x308 + 1 + 0 + 0 ≤ 601024 from by omega, show 30000 + 6 * Int32.toNatClampNeg x308 + 6 + 0 + 0 ≤ 7293034 from by omega⟩ (fun h => hR _ h)
    · refine ev_wid (k' := 400 + Int32.toNatClampNeg x308 + 6) (n' := 30000 + 6 * Int32.toNatClampNeg x308 + 36) (show 400 + Int32.toNatClampNeg x308 + 1 + 0 + 0 ≤ 400 + Int32.toNatClampNeg x308 + 6 from by omega) (show 30000 + 6 * Int32.toNatClampNeg x308 + 6 + 0 + 0 ≤ 30000 + 6 * Int32.toNatClampNeg x308 + 36 from by omega) ?_
      exact ev_drop (l' := [some (.ref 2000), some (.ref 0), some (.ref 272), some (.ref 287), some (.int x308), none, none]) ⟨Or.inr rfl, Or.inr rfl, Or.inr rfl, Or.inr rfl, Or.inr rfl, Or.inl rfl, Or.inl rfl, trivial⟩ (jn_L_law__1652 G x308 m318 hx308 hC hR hX)
  · refine ev_iconst (ea_at dt_L_law__15 53 rfl) ic_0 ?_
    exact ev_zret (by decide) (ea_at dt_L_law__15 54 rfl) rfl ⟨show 400 + Int32.toNatClampNeg x308 + 1 + 0 + 0 ≤ 601024 from by omega, show 30000 + 6 * Int32.toNatClampNeg x308 + 6 + 0 + 0 ≤ 7293034 from by omega⟩ (fun h => hR _ h)
set_option maxHeartbeats 300000 in
theorem jn_L_law__1720 (G : ea_G) {res : ea_O}  (x334 : Int32) (m335 : ea_M) (hx334 : Int32.toNatClampNeg x334 ≤ 4000) {Φ : ((Int32 × ea_M) ⊕ ((Int32 × ea_M) ⊕ (ea_M))) → Prop} (hC : ∀ s23 : Int32 × ea_M, Φ (.inl s23) → ea_Ev G F_L_law_ res 23 [some (.ref 2000), some (.ref 0), some (.ref 272), some (.ref 287), some (.int s23.1), none, none] [] s23.2 (400 + Int32.toNatClampNeg s23.1) (30000 + 6 * Int32.toNatClampNeg s23.1)) (hR : ∀ t : Int32 × ea_M, Φ (.inr (.inl t)) → res = (0, t)) (hX : ∀ x23s : ea_M, Φ (.inr (.inr x23s)) → ea_Ev G F_L_law_ res 2851 [none, none, none, none, none, none, none] [] x23s 5000 60000) : ea_E G F_L_law_ res 1720 [some (.ref 2000), some (.ref 0), some (.ref 272), some (.ref 287), some (.int x334), none, none] [] m335 (400 + Int32.toNatClampNeg x334 + 6) (30000 + 6 * Int32.toNatClampNeg x334 + 36) (f_L_law__j1720 G x334 m335) Φ := by
  unfold f_L_law__j1720
  refine ev_goto (tgt := 2845) (ea_at dt_L_law__16 51 rfl) rfl ?_
  refine ev_wid (k' := 400 + Int32.toNatClampNeg x334 + 6) (n' := 30000 + 6 * Int32.toNatClampNeg x334 + 36) (show 400 + Int32.toNatClampNeg x334 + 6 ≤ 400 + Int32.toNatClampNeg x334 + 6 from by omega) (show 30000 + 6 * Int32.toNatClampNeg x334 + 36 ≤ 30000 + 6 * Int32.toNatClampNeg x334 + 36 from by omega) ?_
  exact ev_drop (l' := [some (.ref 2000), some (.ref 0), some (.ref 272), some (.ref 287), some (.int x334), none, none]) ⟨Or.inr rfl, Or.inr rfl, Or.inr rfl, Or.inr rfl, Or.inr rfl, Or.inl rfl, Or.inl rfl, trivial⟩ (jn_L_law__2845 G x334 m335 hx334 hC hR hX)
set_option maxHeartbeats 300000 in
theorem jn_L_law__1655 (G : ea_G) {res : ea_O}  (x322 : Int32) (m323 : ea_M) (hx322 : Int32.toNatClampNeg x322 ≤ 4000) {Φ : ((Int32 × ea_M) ⊕ ((Int32 × ea_M) ⊕ (ea_M))) → Prop} (hC : ∀ s23 : Int32 × ea_M, Φ (.inl s23) → ea_Ev G F_L_law_ res 23 [some (.ref 2000), some (.ref 0), some (.ref 272), some (.ref 287), some (.int s23.1), none, none] [] s23.2 (400 + Int32.toNatClampNeg s23.1) (30000 + 6 * Int32.toNatClampNeg s23.1)) (hR : ∀ t : Int32 × ea_M, Φ (.inr (.inl t)) → res = (0, t)) (hX : ∀ x23s : ea_M, Φ (.inr (.inr x23s)) → ea_Ev G F_L_law_ res 2851 [none, none, none, none, none, none, none] [] x23s 5000 60000) : ea_E G F_L_law_ res 1655 [some (.ref 2000), some (.ref 0), some (.ref 272), some (.ref 287), some (.int x322), none, none] [] m323 (400 + Int32.toNatClampNeg x322) (30000 + 6 * Int32.toNatClampNeg x322) (f_L_law__j1655 G x322 m323) Φ := by
  unfold f_L_law__j1655
  refine ev_aload_n (ea_at dt_L_law__16 7 rfl) rfl ?_
  refine ev_aload_n (ea_at dt_L_law__16 8 rfl) rfl ?_
  refine ev_iload (ea_at dt_L_law__16 9 rfl) rfl ?_
  refine ev_iconst (ea_at dt_L_law__16 10 rfl) ic_1 ?_
  refine ev_iadd (ea_at dt_L_law__16 11 rfl) ?_
  refine ev_script (ea_at dt_L_law__16 12 rfl) ?_
  refine ev_i (fun x324 => ?_)
  refine ev_aload_n (ea_at dt_L_law__16 13 rfl) rfl ?_
  refine ev_iload (ea_at dt_L_law__16 14 rfl) rfl ?_
  refine ev_iconst (ea_at dt_L_law__16 15 rfl) ic_2 ?_
  refine ev_iadd (ea_at dt_L_law__16 16 rfl) ?_
  refine ev_script (ea_at dt_L_law__16 17 rfl) ?_
  refine ev_i (fun x325 => ?_)
  refine ev_aload_n (ea_at dt_L_law__16 18 rfl) rfl ?_
  refine ev_clI (F1 := F_L_when) (fun rY mY hY => ea_runSH (As := [.ref 0, .int x324, .int x325, .ref 287]) (ea_at dt_L_law__16 19 rfl) ml_L_215 mv_L_when (ok_L_when G x324 x325 m323 rY mY hY) rfl rfl (Nat.le_of_ble_eq_true rfl) (ea_okK rfl (show 400 + Int32.toNatClampNeg x322 + 2 ≤ 601024 from by omega) (show 30000 + 6 * Int32.toNatClampNeg x322 + 12 ≤ 7293034 from by omega))) rfl (fun r327 m326 => ?_)
  refine ev_istore (ls' := [some (.ref 2000), some (.ref 0), some (.ref 272), some (.ref 287), some (.int x322), some (.int r327), none]) (ea_at dt_L_law__16 20 rfl) (ea_lt rfl) rfl ?_
  refine ev_aload_n (ea_at dt_L_law__16 21 rfl) rfl ?_
  refine ev_aload_n (ea_at dt_L_law__16 22 rfl) rfl ?_
  refine ev_iload (ea_at dt_L_law__16 23 rfl) rfl ?_
  refine ev_iconst (ea_at dt_L_law__16 24 rfl) ic_1 ?_
  refine ev_iadd (ea_at dt_L_law__16 25 rfl) ?_
  refine ev_script (ea_at dt_L_law__16 26 rfl) ?_
  refine ev_i (fun x328 => ?_)
  refine ev_aload_n (ea_at dt_L_law__16 27 rfl) rfl ?_
  refine ev_iload (ea_at dt_L_law__16 28 rfl) rfl ?_
  refine ev_iconst (ea_at dt_L_law__16 29 rfl) ic_2 ?_
  refine ev_iadd (ea_at dt_L_law__16 30 rfl) ?_
  refine ev_script (ea_at dt_L_law__16 31 rfl) ?_
  refine ev_i (fun x329 => ?_)
  refine ev_clI (F1 := F_X12_when) (fun rY mY hY => ea_runV (As := [.int x328, .int x329]) (ea_at dt_L_law__16 32 rfl) ml_L_217 mv_X12_when (ok_X12_when G x328 x329 m326 rY mY hY) sh_272 rfl rfl rfl (Nat.le_of_ble_eq_true rfl) (ea_okK rfl (show 400 + Int32.toNatClampNeg x322 + 2 + 0 ≤ 601024 from by omega) (show 30000 + 6 * Int32.toNatClampNeg x322 + 12 + 0 ≤ 7293034 from by omega))) rfl (fun r331 m330 => ?_)
  refine ev_istore (ls' := [some (.ref 2000), some (.ref 0), some (.ref 272), some (.ref 287), some (.int x322), some (.int r327), some (.int r331)]) (ea_at dt_L_law__16 33 rfl) (ea_lt rfl) rfl ?_
  refine ev_aload_n (ea_at dt_L_law__16 34 rfl) rfl ?_
  refine ev_clI (F1 := F_X12_thrown) (fun rY mY hY => ea_runV (As := []) (ea_at dt_L_law__16 35 rfl) ml_L_148 mv_X12_thrown (ok_X12_thrown G m330 rY mY hY) sh_272 rfl rfl rfl (Nat.le_of_ble_eq_true rfl) (ea_okK rfl (show 400 + Int32.toNatClampNeg x322 + 2 + 0 + 0 ≤ 601024 from by omega) (show 30000 + 6 * Int32.toNatClampNeg x322 + 12 + 0 + 0 ≤ 7293034 from by omega))) rfl (fun r333 m332 => ?_)
  refine ev_iload (ea_at dt_L_law__16 36 rfl) rfl ?_
  refine ev_icmp_eq (tgt := 1703) (ea_at dt_L_law__16 37 rfl) rfl (fun _ => ?_) (fun _ => ?_)
  · refine ev_iload (ea_at dt_L_law__16 40 rfl) rfl ?_
    refine ev_if_ne (tgt := 1720) (ea_at dt_L_law__16 41 rfl) rfl (fun _ => ?_) (fun _ => ?_)
    · refine ev_aload_n (ea_at dt_L_law__16 42 rfl) rfl ?_
      refine ev_iconst (ea_at dt_L_law__16 43 rfl) ic_0 ?_
      refine ev_laloadC (j := 0) (ea_at dt_L_law__16 44 rfl) sh_287 (by decide) (by decide) (by decide) ?_
      refine ev_iload (ea_at dt_L_law__16 45 rfl) rfl ?_
      refine ev_i2l (ea_at dt_L_law__16 46 rfl) ?_
      refine ev_lcmp (ea_at dt_L_law__16 47 rfl) ?_
      refine ev_if_eq (tgt := 1720) (ea_at dt_L_law__16 48 rfl) rfl (fun _ => ?_) (fun _ => ?_)
      · refine ev_wid (k' := 400 + Int32.toNatClampNeg x322 + 6) (n' := 30000 + 6 * Int32.toNatClampNeg x322 + 36) (show 400 + Int32.toNatClampNeg x322 + 2 + 0 + 0 ≤ 400 + Int32.toNatClampNeg x322 + 6 from by omega) (show 30000 + 6 * Int32.toNatClampNeg x322 + 12 + 0 + 0 ≤ 30000 + 6 * Int32.toNatClampNeg x322 + 36 from by omega) ?_
        exact ev_drop (l' := [some (.ref 2000), some (.ref 0), some (.ref 272), some (.ref 287), some (.int x322), none, none]) ⟨Or.inr rfl, Or.inr rfl, Or.inr rfl, Or.inr rfl, Or.inr rfl, Or.inl rfl, Or.inl rfl, trivial⟩ (jn_L_law__1720 G x322 m332 hx322 hC hR hX)
      · refine ev_iconst (ea_at dt_L_law__16 49 rfl) ic_0 ?_
        exact ev_zret (by decide) (ea_at dt_L_law__16 50 rfl) rfl ⟨show 400 + Int32.toNatClampNeg x322 + 2 + 0 + 0 ≤ 601024 from by omega, show 30000 + 6 * Int32.toNatClampNeg x322 + 12 + 0 + 0 ≤ 7293034 from by omega⟩ (fun h => hR _ h)
    · refine ev_wid (k' := 400 + Int32.toNatClampNeg x322 + 6) (n' := 30000 + 6 * Int32.toNatClampNeg x322 + 36) (show 400 + Int32.toNatClampNeg x322 + 2 + 0 + 0 ≤ 400 + Int32.toNatClampNeg x322 + 6 from by omega) (show 30000 + 6 * Int32.toNatClampNeg x322 + 12 + 0 + 0 ≤ 30000 + 6 * Int32.toNatClampNeg x322 + 36 from by omega) ?_
      exact ev_drop (l' := [some (.ref 2000), some (.ref 0), some (.ref 272), some (.ref 287), some (.int x322), none, none]) ⟨Or.inr rfl, Or.inr rfl, Or.inr rfl, Or.inr rfl, Or.inr rfl, Or.inl rfl, Or.inl rfl, trivial⟩ (jn_L_law__1720 G x322 m332 hx322 hC hR hX)
  · refine ev_iconst (ea_at dt_L_law__16 38 rfl) ic_0 ?_
    exact ev_zret (by decide) (ea_at dt_L_law__16 39 rfl) rfl ⟨show 400 + Int32.toNatClampNeg x322 + 2 + 0 + 0 ≤ 601024 from by omega, show 30000 + 6 * Int32.toNatClampNeg x322 + 12 + 0 + 0 ≤ 7293034 from by omega⟩ (fun h => hR _ h)
set_option maxHeartbeats 300000 in
theorem jn_L_law__1832 (G : ea_G) {res : ea_O}  (x370 : Int32) (m371 : ea_M) (hx370 : Int32.toNatClampNeg x370 ≤ 4000) {Φ : ((Int32 × ea_M) ⊕ ((Int32 × ea_M) ⊕ (ea_M))) → Prop} (hC : ∀ s23 : Int32 × ea_M, Φ (.inl s23) → ea_Ev G F_L_law_ res 23 [some (.ref 2000), some (.ref 0), some (.ref 272), some (.ref 287), some (.int s23.1), none, none] [] s23.2 (400 + Int32.toNatClampNeg s23.1) (30000 + 6 * Int32.toNatClampNeg s23.1)) (hR : ∀ t : Int32 × ea_M, Φ (.inr (.inl t)) → res = (0, t)) (hX : ∀ x23s : ea_M, Φ (.inr (.inr x23s)) → ea_Ev G F_L_law_ res 2851 [none, none, none, none, none, none, none] [] x23s 5000 60000) : ea_E G F_L_law_ res 1832 [some (.ref 2000), some (.ref 0), some (.ref 272), some (.ref 287), some (.int x370), none, none] [] m371 (400 + Int32.toNatClampNeg x370 + 6) (30000 + 6 * Int32.toNatClampNeg x370 + 36) (f_L_law__j1832 G x370 m371) Φ := by
  unfold f_L_law__j1832
  refine ev_goto (tgt := 2845) (ea_at dt_L_law__18 2 rfl) rfl ?_
  refine ev_wid (k' := 400 + Int32.toNatClampNeg x370 + 6) (n' := 30000 + 6 * Int32.toNatClampNeg x370 + 36) (show 400 + Int32.toNatClampNeg x370 + 6 ≤ 400 + Int32.toNatClampNeg x370 + 6 from by omega) (show 30000 + 6 * Int32.toNatClampNeg x370 + 36 ≤ 30000 + 6 * Int32.toNatClampNeg x370 + 36 from by omega) ?_
  exact ev_drop (l' := [some (.ref 2000), some (.ref 0), some (.ref 272), some (.ref 287), some (.int x370), none, none]) ⟨Or.inr rfl, Or.inr rfl, Or.inr rfl, Or.inr rfl, Or.inr rfl, Or.inl rfl, Or.inl rfl, trivial⟩ (jn_L_law__2845 G x370 m371 hx370 hC hR hX)
set_option maxHeartbeats 300000 in
theorem jn_L_law__1799 (G : ea_G) {res : ea_O}  (x360 : Int32) (x361 : Int32) (x362 : Int32) (x363 : Int32) (x364 : Int32) (m365 : ea_M) (hx360 : Int32.toNatClampNeg x360 ≤ 4000) {Φ : ((Int32 × ea_M) ⊕ ((Int32 × ea_M) ⊕ (ea_M))) → Prop} (hC : ∀ s23 : Int32 × ea_M, Φ (.inl s23) → ea_Ev G F_L_law_ res 23 [some (.ref 2000), some (.ref 0), some (.ref 272), some (.ref 287), some (.int s23.1), none, none] [] s23.2 (400 + Int32.toNatClampNeg s23.1) (30000 + 6 * Int32.toNatClampNeg s23.1)) (hR : ∀ t : Int32 × ea_M, Φ (.inr (.inl t)) → res = (0, t)) (hX : ∀ x23s : ea_M, Φ (.inr (.inr x23s)) → ea_Ev G F_L_law_ res 2851 [none, none, none, none, none, none, none] [] x23s 5000 60000) : ea_E G F_L_law_ res 1799 [some (.ref 2000), some (.ref 0), some (.ref 272), some (.ref 287), some (.int x360), some (.int x361), none] [.int x364, .int x363, .int x362, .ref 272] m365 (400 + Int32.toNatClampNeg x360 + 2) (30000 + 6 * Int32.toNatClampNeg x360 + 12) (f_L_law__j1799 G x360 x361 x362 x363 x364 m365) Φ := by
  unfold f_L_law__j1799
  refine ev_clI (F1 := F_X12_surest) (fun rY mY hY => ea_runV (As := [.int x362, .int x363, .int x364]) (ea_at dt_L_law__17 43 rfl) ml_L_221 mv_X12_surest (ok_X12_surest G x362 x363 x364 m365 rY mY hY) sh_272 rfl rfl rfl (Nat.le_of_ble_eq_true rfl) (ea_okK rfl (show 400 + Int32.toNatClampNeg x360 + 2 + 0 ≤ 601024 from by omega) (show 30000 + 6 * Int32.toNatClampNeg x360 + 12 + 0 ≤ 7293034 from by omega))) rfl (fun r367 m366 => ?_)
  refine ev_istore (ls' := [some (.ref 2000), some (.ref 0), some (.ref 272), some (.ref 287), some (.int x360), some (.int x361), some (.int r367)]) (ea_at dt_L_law__17 44 rfl) (ea_lt rfl) rfl ?_
  refine ev_aload_n (ea_at dt_L_law__17 45 rfl) rfl ?_
  refine ev_clI (F1 := F_X12_thrown) (fun rY mY hY => ea_runV (As := []) (ea_at dt_L_law__17 46 rfl) ml_L_148 mv_X12_thrown (ok_X12_thrown G m366 rY mY hY) sh_272 rfl rfl rfl (Nat.le_of_ble_eq_true rfl) (ea_okK rfl (show 400 + Int32.toNatClampNeg x360 + 2 + 0 + 0 ≤ 601024 from by omega) (show 30000 + 6 * Int32.toNatClampNeg x360 + 12 + 0 + 0 ≤ 7293034 from by omega))) rfl (fun r369 m368 => ?_)
  refine ev_iload (ea_at dt_L_law__17 47 rfl) rfl ?_
  refine ev_icmp_eq (tgt := 1815) (ea_at dt_L_law__17 48 rfl) rfl (fun _ => ?_) (fun _ => ?_)
  · refine ev_iload (ea_at dt_L_law__17 51 rfl) rfl ?_
    refine ev_if_ne (tgt := 1832) (ea_at dt_L_law__17 52 rfl) rfl (fun _ => ?_) (fun _ => ?_)
    · refine ev_aload_n (ea_at dt_L_law__17 53 rfl) rfl ?_
      refine ev_iconst (ea_at dt_L_law__17 54 rfl) ic_0 ?_
      refine ev_laloadC (j := 0) (ea_at dt_L_law__17 55 rfl) sh_287 (by decide) (by decide) (by decide) ?_
      refine ev_iload (ea_at dt_L_law__17 56 rfl) rfl ?_
      refine ev_i2l (ea_at dt_L_law__17 57 rfl) ?_
      refine ev_lcmp (ea_at dt_L_law__17 58 rfl) ?_
      refine ev_if_eq (tgt := 1832) (ea_at dt_L_law__17 59 rfl) rfl (fun _ => ?_) (fun _ => ?_)
      · refine ev_wid (k' := 400 + Int32.toNatClampNeg x360 + 6) (n' := 30000 + 6 * Int32.toNatClampNeg x360 + 36) (show 400 + Int32.toNatClampNeg x360 + 2 + 0 + 0 ≤ 400 + Int32.toNatClampNeg x360 + 6 from by omega) (show 30000 + 6 * Int32.toNatClampNeg x360 + 12 + 0 + 0 ≤ 30000 + 6 * Int32.toNatClampNeg x360 + 36 from by omega) ?_
        exact ev_drop (l' := [some (.ref 2000), some (.ref 0), some (.ref 272), some (.ref 287), some (.int x360), none, none]) ⟨Or.inr rfl, Or.inr rfl, Or.inr rfl, Or.inr rfl, Or.inr rfl, Or.inl rfl, Or.inl rfl, trivial⟩ (jn_L_law__1832 G x360 m368 hx360 hC hR hX)
      · refine ev_iconst (ea_at dt_L_law__18 0 rfl) ic_0 ?_
        exact ev_zret (by decide) (ea_at dt_L_law__18 1 rfl) rfl ⟨show 400 + Int32.toNatClampNeg x360 + 2 + 0 + 0 ≤ 601024 from by omega, show 30000 + 6 * Int32.toNatClampNeg x360 + 12 + 0 + 0 ≤ 7293034 from by omega⟩ (fun h => hR _ h)
    · refine ev_wid (k' := 400 + Int32.toNatClampNeg x360 + 6) (n' := 30000 + 6 * Int32.toNatClampNeg x360 + 36) (show 400 + Int32.toNatClampNeg x360 + 2 + 0 + 0 ≤ 400 + Int32.toNatClampNeg x360 + 6 from by omega) (show 30000 + 6 * Int32.toNatClampNeg x360 + 12 + 0 + 0 ≤ 30000 + 6 * Int32.toNatClampNeg x360 + 36 from by omega) ?_
      exact ev_drop (l' := [some (.ref 2000), some (.ref 0), some (.ref 272), some (.ref 287), some (.int x360), none, none]) ⟨Or.inr rfl, Or.inr rfl, Or.inr rfl, Or.inr rfl, Or.inr rfl, Or.inl rfl, Or.inl rfl, trivial⟩ (jn_L_law__1832 G x360 m368 hx360 hC hR hX)
  · refine ev_iconst (ea_at dt_L_law__17 49 rfl) ic_0 ?_
    exact ev_zret (by decide) (ea_at dt_L_law__17 50 rfl) rfl ⟨show 400 + Int32.toNatClampNeg x360 + 2 + 0 + 0 ≤ 601024 from by omega, show 30000 + 6 * Int32.toNatClampNeg x360 + 12 + 0 + 0 ≤ 7293034 from by omega⟩ (fun h => hR _ h)
set_option maxHeartbeats 300000 in
theorem jn_L_law__1785 (G : ea_G) {res : ea_O}  (x354 : Int32) (x355 : Int32) (x356 : Int32) (x357 : Int32) (m358 : ea_M) (hx354 : Int32.toNatClampNeg x354 ≤ 4000) {Φ : ((Int32 × ea_M) ⊕ ((Int32 × ea_M) ⊕ (ea_M))) → Prop} (hC : ∀ s23 : Int32 × ea_M, Φ (.inl s23) → ea_Ev G F_L_law_ res 23 [some (.ref 2000), some (.ref 0), some (.ref 272), some (.ref 287), some (.int s23.1), none, none] [] s23.2 (400 + Int32.toNatClampNeg s23.1) (30000 + 6 * Int32.toNatClampNeg s23.1)) (hR : ∀ t : Int32 × ea_M, Φ (.inr (.inl t)) → res = (0, t)) (hX : ∀ x23s : ea_M, Φ (.inr (.inr x23s)) → ea_Ev G F_L_law_ res 2851 [none, none, none, none, none, none, none] [] x23s 5000 60000) : ea_E G F_L_law_ res 1785 [some (.ref 2000), some (.ref 0), some (.ref 272), some (.ref 287), some (.int x354), some (.int x355), none] [.int x357, .int x356, .ref 272] m358 (400 + Int32.toNatClampNeg x354 + 2) (30000 + 6 * Int32.toNatClampNeg x354 + 12) (f_L_law__j1785 G x354 x355 x356 x357 m358) Φ := by
  unfold f_L_law__j1785
  refine ev_aload_n (ea_at dt_L_law__17 34 rfl) rfl ?_
  refine ev_iload (ea_at dt_L_law__17 35 rfl) rfl ?_
  refine ev_iconst (ea_at dt_L_law__17 36 rfl) ic_3 ?_
  refine ev_iadd (ea_at dt_L_law__17 37 rfl) ?_
  refine ev_script (ea_at dt_L_law__17 38 rfl) ?_
  refine ev_i (fun x359 => ?_)
  refine ev_if_eq (tgt := 1798) (ea_at dt_L_law__17 39 rfl) rfl (fun _ => ?_) (fun _ => ?_)
  · refine ev_iconst (ea_at dt_L_law__17 42 rfl) ic_0 ?_
    refine ev_wid (k' := 400 + Int32.toNatClampNeg x354 + 2) (n' := 30000 + 6 * Int32.toNatClampNeg x354 + 12) (show 400 + Int32.toNatClampNeg x354 + 2 ≤ 400 + Int32.toNatClampNeg x354 + 2 from by omega) (show 30000 + 6 * Int32.toNatClampNeg x354 + 12 ≤ 30000 + 6 * Int32.toNatClampNeg x354 + 12 from by omega) ?_
    exact ev_drop (l' := [some (.ref 2000), some (.ref 0), some (.ref 272), some (.ref 287), some (.int x354), some (.int x355), none]) ⟨Or.inr rfl, Or.inr rfl, Or.inr rfl, Or.inr rfl, Or.inr rfl, Or.inr rfl, Or.inl rfl, trivial⟩ (jn_L_law__1799 G x354 x355 x356 x357 0 m358 hx354 hC hR hX)
  · refine ev_iconst (ea_at dt_L_law__17 40 rfl) ic_1 ?_
    refine ev_goto (tgt := 1799) (ea_at dt_L_law__17 41 rfl) rfl ?_
    refine ev_wid (k' := 400 + Int32.toNatClampNeg x354 + 2) (n' := 30000 + 6 * Int32.toNatClampNeg x354 + 12) (show 400 + Int32.toNatClampNeg x354 + 2 ≤ 400 + Int32.toNatClampNeg x354 + 2 from by omega) (show 30000 + 6 * Int32.toNatClampNeg x354 + 12 ≤ 30000 + 6 * Int32.toNatClampNeg x354 + 12 from by omega) ?_
    exact ev_drop (l' := [some (.ref 2000), some (.ref 0), some (.ref 272), some (.ref 287), some (.int x354), some (.int x355), none]) ⟨Or.inr rfl, Or.inr rfl, Or.inr rfl, Or.inr rfl, Or.inr rfl, Or.inr rfl, Or.inl rfl, trivial⟩ (jn_L_law__1799 G x354 x355 x356 x357 1 m358 hx354 hC hR hX)
set_option maxHeartbeats 300000 in
theorem jn_L_law__1758 (G : ea_G) {res : ea_O}  (x345 : Int32) (x346 : Int32) (x347 : Int32) (x348 : Int32) (m349 : ea_M) (hx345 : Int32.toNatClampNeg x345 ≤ 4000) {Φ : ((Int32 × ea_M) ⊕ ((Int32 × ea_M) ⊕ (ea_M))) → Prop} (hC : ∀ s23 : Int32 × ea_M, Φ (.inl s23) → ea_Ev G F_L_law_ res 23 [some (.ref 2000), some (.ref 0), some (.ref 272), some (.ref 287), some (.int s23.1), none, none] [] s23.2 (400 + Int32.toNatClampNeg s23.1) (30000 + 6 * Int32.toNatClampNeg s23.1)) (hR : ∀ t : Int32 × ea_M, Φ (.inr (.inl t)) → res = (0, t)) (hX : ∀ x23s : ea_M, Φ (.inr (.inr x23s)) → ea_Ev G F_L_law_ res 2851 [none, none, none, none, none, none, none] [] x23s 5000 60000) : ea_E G F_L_law_ res 1758 [some (.ref 2000), some (.ref 0), some (.ref 272), some (.ref 287), some (.int x345), none, none] [.int x348, .int x347, .int x346, .ref 0] m349 (400 + Int32.toNatClampNeg x345) (30000 + 6 * Int32.toNatClampNeg x345) (f_L_law__j1758 G x345 x346 x347 x348 m349) Φ := by
  unfold f_L_law__j1758
  refine ev_aload_n (ea_at dt_L_law__17 16 rfl) rfl ?_
  refine ev_clI (F1 := F_L_surest) (fun rY mY hY => ea_runSH (As := [.ref 0, .int x346, .int x347, .int x348, .ref 287]) (ea_at dt_L_law__17 17 rfl) ml_L_218 mv_L_surest (ok_L_surest G x346 x347 x348 m349 rY mY hY) rfl rfl (Nat.le_of_ble_eq_true rfl) (ea_okK rfl (show 400 + Int32.toNatClampNeg x345 + 2 ≤ 601024 from by omega) (show 30000 + 6 * Int32.toNatClampNeg x345 + 12 ≤ 7293034 from by omega))) rfl (fun r351 m350 => ?_)
  refine ev_istore (ls' := [some (.ref 2000), some (.ref 0), some (.ref 272), some (.ref 287), some (.int x345), some (.int r351), none]) (ea_at dt_L_law__17 18 rfl) (ea_lt rfl) rfl ?_
  refine ev_aload_n (ea_at dt_L_law__17 19 rfl) rfl ?_
  refine ev_aload_n (ea_at dt_L_law__17 20 rfl) rfl ?_
  refine ev_iload (ea_at dt_L_law__17 21 rfl) rfl ?_
  refine ev_iconst (ea_at dt_L_law__17 22 rfl) ic_1 ?_
  refine ev_iadd (ea_at dt_L_law__17 23 rfl) ?_
  refine ev_script (ea_at dt_L_law__17 24 rfl) ?_
  refine ev_i (fun x352 => ?_)
  refine ev_aload_n (ea_at dt_L_law__17 25 rfl) rfl ?_
  refine ev_iload (ea_at dt_L_law__17 26 rfl) rfl ?_
  refine ev_iconst (ea_at dt_L_law__17 27 rfl) ic_2 ?_
  refine ev_iadd (ea_at dt_L_law__17 28 rfl) ?_
  refine ev_script (ea_at dt_L_law__17 29 rfl) ?_
  refine ev_i (fun x353 => ?_)
  refine ev_if_eq (tgt := 1784) (ea_at dt_L_law__17 30 rfl) rfl (fun _ => ?_) (fun _ => ?_)
  · refine ev_iconst (ea_at dt_L_law__17 33 rfl) ic_0 ?_
    refine ev_wid (k' := 400 + Int32.toNatClampNeg x345 + 2) (n' := 30000 + 6 * Int32.toNatClampNeg x345 + 12) (show 400 + Int32.toNatClampNeg x345 + 2 ≤ 400 + Int32.toNatClampNeg x345 + 2 from by omega) (show 30000 + 6 * Int32.toNatClampNeg x345 + 12 ≤ 30000 + 6 * Int32.toNatClampNeg x345 + 12 from by omega) ?_
    exact ev_drop (l' := [some (.ref 2000), some (.ref 0), some (.ref 272), some (.ref 287), some (.int x345), some (.int r351), none]) ⟨Or.inr rfl, Or.inr rfl, Or.inr rfl, Or.inr rfl, Or.inr rfl, Or.inr rfl, Or.inl rfl, trivial⟩ (jn_L_law__1785 G x345 r351 x352 0 m350 hx345 hC hR hX)
  · refine ev_iconst (ea_at dt_L_law__17 31 rfl) ic_1 ?_
    refine ev_goto (tgt := 1785) (ea_at dt_L_law__17 32 rfl) rfl ?_
    refine ev_wid (k' := 400 + Int32.toNatClampNeg x345 + 2) (n' := 30000 + 6 * Int32.toNatClampNeg x345 + 12) (show 400 + Int32.toNatClampNeg x345 + 2 ≤ 400 + Int32.toNatClampNeg x345 + 2 from by omega) (show 30000 + 6 * Int32.toNatClampNeg x345 + 12 ≤ 30000 + 6 * Int32.toNatClampNeg x345 + 12 from by omega) ?_
    exact ev_drop (l' := [some (.ref 2000), some (.ref 0), some (.ref 272), some (.ref 287), some (.int x345), some (.int r351), none]) ⟨Or.inr rfl, Or.inr rfl, Or.inr rfl, Or.inr rfl, Or.inr rfl, Or.inr rfl, Or.inl rfl, trivial⟩ (jn_L_law__1785 G x345 r351 x352 1 m350 hx345 hC hR hX)
set_option maxHeartbeats 300000 in
theorem jn_L_law__1744 (G : ea_G) {res : ea_O}  (x340 : Int32) (x341 : Int32) (x342 : Int32) (m343 : ea_M) (hx340 : Int32.toNatClampNeg x340 ≤ 4000) {Φ : ((Int32 × ea_M) ⊕ ((Int32 × ea_M) ⊕ (ea_M))) → Prop} (hC : ∀ s23 : Int32 × ea_M, Φ (.inl s23) → ea_Ev G F_L_law_ res 23 [some (.ref 2000), some (.ref 0), some (.ref 272), some (.ref 287), some (.int s23.1), none, none] [] s23.2 (400 + Int32.toNatClampNeg s23.1) (30000 + 6 * Int32.toNatClampNeg s23.1)) (hR : ∀ t : Int32 × ea_M, Φ (.inr (.inl t)) → res = (0, t)) (hX : ∀ x23s : ea_M, Φ (.inr (.inr x23s)) → ea_Ev G F_L_law_ res 2851 [none, none, none, none, none, none, none] [] x23s 5000 60000) : ea_E G F_L_law_ res 1744 [some (.ref 2000), some (.ref 0), some (.ref 272), some (.ref 287), some (.int x340), none, none] [.int x342, .int x341, .ref 0] m343 (400 + Int32.toNatClampNeg x340) (30000 + 6 * Int32.toNatClampNeg x340) (f_L_law__j1744 G x340 x341 x342 m343) Φ := by
  unfold f_L_law__j1744
  refine ev_aload_n (ea_at dt_L_law__17 7 rfl) rfl ?_
  refine ev_iload (ea_at dt_L_law__17 8 rfl) rfl ?_
  refine ev_iconst (ea_at dt_L_law__17 9 rfl) ic_3 ?_
  refine ev_iadd (ea_at dt_L_law__17 10 rfl) ?_
  refine ev_script (ea_at dt_L_law__17 11 rfl) ?_
  refine ev_i (fun x344 => ?_)
  refine ev_if_eq (tgt := 1757) (ea_at dt_L_law__17 12 rfl) rfl (fun _ => ?_) (fun _ => ?_)
  · refine ev_iconst (ea_at dt_L_law__17 15 rfl) ic_0 ?_
    refine ev_wid (k' := 400 + Int32.toNatClampNeg x340) (n' := 30000 + 6 * Int32.toNatClampNeg x340) (show 400 + Int32.toNatClampNeg x340 ≤ 400 + Int32.toNatClampNeg x340 from by omega) (show 30000 + 6 * Int32.toNatClampNeg x340 ≤ 30000 + 6 * Int32.toNatClampNeg x340 from by omega) ?_
    exact ev_drop (l' := [some (.ref 2000), some (.ref 0), some (.ref 272), some (.ref 287), some (.int x340), none, none]) ⟨Or.inr rfl, Or.inr rfl, Or.inr rfl, Or.inr rfl, Or.inr rfl, Or.inl rfl, Or.inl rfl, trivial⟩ (jn_L_law__1758 G x340 x341 x342 0 m343 hx340 hC hR hX)
  · refine ev_iconst (ea_at dt_L_law__17 13 rfl) ic_1 ?_
    refine ev_goto (tgt := 1758) (ea_at dt_L_law__17 14 rfl) rfl ?_
    refine ev_wid (k' := 400 + Int32.toNatClampNeg x340) (n' := 30000 + 6 * Int32.toNatClampNeg x340) (show 400 + Int32.toNatClampNeg x340 ≤ 400 + Int32.toNatClampNeg x340 from by omega) (show 30000 + 6 * Int32.toNatClampNeg x340 ≤ 30000 + 6 * Int32.toNatClampNeg x340 from by omega) ?_
    exact ev_drop (l' := [some (.ref 2000), some (.ref 0), some (.ref 272), some (.ref 287), some (.int x340), none, none]) ⟨Or.inr rfl, Or.inr rfl, Or.inr rfl, Or.inr rfl, Or.inr rfl, Or.inl rfl, Or.inl rfl, trivial⟩ (jn_L_law__1758 G x340 x341 x342 1 m343 hx340 hC hR hX)
set_option maxHeartbeats 300000 in
theorem jn_L_law__1723 (G : ea_G) {res : ea_O}  (x336 : Int32) (m337 : ea_M) (hx336 : Int32.toNatClampNeg x336 ≤ 4000) {Φ : ((Int32 × ea_M) ⊕ ((Int32 × ea_M) ⊕ (ea_M))) → Prop} (hC : ∀ s23 : Int32 × ea_M, Φ (.inl s23) → ea_Ev G F_L_law_ res 23 [some (.ref 2000), some (.ref 0), some (.ref 272), some (.ref 287), some (.int s23.1), none, none] [] s23.2 (400 + Int32.toNatClampNeg s23.1) (30000 + 6 * Int32.toNatClampNeg s23.1)) (hR : ∀ t : Int32 × ea_M, Φ (.inr (.inl t)) → res = (0, t)) (hX : ∀ x23s : ea_M, Φ (.inr (.inr x23s)) → ea_Ev G F_L_law_ res 2851 [none, none, none, none, none, none, none] [] x23s 5000 60000) : ea_E G F_L_law_ res 1723 [some (.ref 2000), some (.ref 0), some (.ref 272), some (.ref 287), some (.int x336), none, none] [] m337 (400 + Int32.toNatClampNeg x336) (30000 + 6 * Int32.toNatClampNeg x336) (f_L_law__j1723 G x336 m337) Φ := by
  unfold f_L_law__j1723
  refine ev_aload_n (ea_at dt_L_law__16 52 rfl) rfl ?_
  refine ev_aload_n (ea_at dt_L_law__16 53 rfl) rfl ?_
  refine ev_iload (ea_at dt_L_law__16 54 rfl) rfl ?_
  refine ev_iconst (ea_at dt_L_law__16 55 rfl) ic_1 ?_
  refine ev_iadd (ea_at dt_L_law__16 56 rfl) ?_
  refine ev_script (ea_at dt_L_law__16 57 rfl) ?_
  refine ev_i (fun x338 => ?_)
  refine ev_aload_n (ea_at dt_L_law__16 58 rfl) rfl ?_
  refine ev_iload (ea_at dt_L_law__16 59 rfl) rfl ?_
  refine ev_iconst (ea_at dt_L_law__17 0 rfl) ic_2 ?_
  refine ev_iadd (ea_at dt_L_law__17 1 rfl) ?_
  refine ev_script (ea_at dt_L_law__17 2 rfl) ?_
  refine ev_i (fun x339 => ?_)
  refine ev_if_eq (tgt := 1743) (ea_at dt_L_law__17 3 rfl) rfl (fun _ => ?_) (fun _ => ?_)
  · refine ev_iconst (ea_at dt_L_law__17 6 rfl) ic_0 ?_
    refine ev_wid (k' := 400 + Int32.toNatClampNeg x336) (n' := 30000 + 6 * Int32.toNatClampNeg x336) (show 400 + Int32.toNatClampNeg x336 ≤ 400 + Int32.toNatClampNeg x336 from by omega) (show 30000 + 6 * Int32.toNatClampNeg x336 ≤ 30000 + 6 * Int32.toNatClampNeg x336 from by omega) ?_
    exact ev_drop (l' := [some (.ref 2000), some (.ref 0), some (.ref 272), some (.ref 287), some (.int x336), none, none]) ⟨Or.inr rfl, Or.inr rfl, Or.inr rfl, Or.inr rfl, Or.inr rfl, Or.inl rfl, Or.inl rfl, trivial⟩ (jn_L_law__1744 G x336 x338 0 m337 hx336 hC hR hX)
  · refine ev_iconst (ea_at dt_L_law__17 4 rfl) ic_1 ?_
    refine ev_goto (tgt := 1744) (ea_at dt_L_law__17 5 rfl) rfl ?_
    refine ev_wid (k' := 400 + Int32.toNatClampNeg x336) (n' := 30000 + 6 * Int32.toNatClampNeg x336) (show 400 + Int32.toNatClampNeg x336 ≤ 400 + Int32.toNatClampNeg x336 from by omega) (show 30000 + 6 * Int32.toNatClampNeg x336 ≤ 30000 + 6 * Int32.toNatClampNeg x336 from by omega) ?_
    exact ev_drop (l' := [some (.ref 2000), some (.ref 0), some (.ref 272), some (.ref 287), some (.int x336), none, none]) ⟨Or.inr rfl, Or.inr rfl, Or.inr rfl, Or.inr rfl, Or.inr rfl, Or.inl rfl, Or.inl rfl, trivial⟩ (jn_L_law__1744 G x336 x338 1 m337 hx336 hC hR hX)
set_option maxHeartbeats 300000 in
theorem jn_L_law__1916 (G : ea_G) {res : ea_O}  (x393 : Int32) (m394 : ea_M) (hx393 : Int32.toNatClampNeg x393 ≤ 4000) {Φ : ((Int32 × ea_M) ⊕ ((Int32 × ea_M) ⊕ (ea_M))) → Prop} (hC : ∀ s23 : Int32 × ea_M, Φ (.inl s23) → ea_Ev G F_L_law_ res 23 [some (.ref 2000), some (.ref 0), some (.ref 272), some (.ref 287), some (.int s23.1), none, none] [] s23.2 (400 + Int32.toNatClampNeg s23.1) (30000 + 6 * Int32.toNatClampNeg s23.1)) (hR : ∀ t : Int32 × ea_M, Φ (.inr (.inl t)) → res = (0, t)) (hX : ∀ x23s : ea_M, Φ (.inr (.inr x23s)) → ea_Ev G F_L_law_ res 2851 [none, none, none, none, none, none, none] [] x23s 5000 60000) : ea_E G F_L_law_ res 1916 [some (.ref 2000), some (.ref 0), some (.ref 272), some (.ref 287), some (.int x393), none, none] [] m394 (400 + Int32.toNatClampNeg x393 + 6) (30000 + 6 * Int32.toNatClampNeg x393 + 36) (f_L_law__j1916 G x393 m394) Φ := by
  unfold f_L_law__j1916
  refine ev_goto (tgt := 2845) (ea_at dt_L_law__18 55 rfl) rfl ?_
  refine ev_wid (k' := 400 + Int32.toNatClampNeg x393 + 6) (n' := 30000 + 6 * Int32.toNatClampNeg x393 + 36) (show 400 + Int32.toNatClampNeg x393 + 6 ≤ 400 + Int32.toNatClampNeg x393 + 6 from by omega) (show 30000 + 6 * Int32.toNatClampNeg x393 + 36 ≤ 30000 + 6 * Int32.toNatClampNeg x393 + 36 from by omega) ?_
  exact ev_drop (l' := [some (.ref 2000), some (.ref 0), some (.ref 272), some (.ref 287), some (.int x393), none, none]) ⟨Or.inr rfl, Or.inr rfl, Or.inr rfl, Or.inr rfl, Or.inr rfl, Or.inl rfl, Or.inl rfl, trivial⟩ (jn_L_law__2845 G x393 m394 hx393 hC hR hX)
set_option maxHeartbeats 300000 in
theorem jn_L_law__1883 (G : ea_G) {res : ea_O}  (x384 : Int32) (x385 : Int32) (x386 : Int32) (x387 : Int32) (m388 : ea_M) (hx384 : Int32.toNatClampNeg x384 ≤ 4000) {Φ : ((Int32 × ea_M) ⊕ ((Int32 × ea_M) ⊕ (ea_M))) → Prop} (hC : ∀ s23 : Int32 × ea_M, Φ (.inl s23) → ea_Ev G F_L_law_ res 23 [some (.ref 2000), some (.ref 0), some (.ref 272), some (.ref 287), some (.int s23.1), none, none] [] s23.2 (400 + Int32.toNatClampNeg s23.1) (30000 + 6 * Int32.toNatClampNeg s23.1)) (hR : ∀ t : Int32 × ea_M, Φ (.inr (.inl t)) → res = (0, t)) (hX : ∀ x23s : ea_M, Φ (.inr (.inr x23s)) → ea_Ev G F_L_law_ res 2851 [none, none, none, none, none, none, none] [] x23s 5000 60000) : ea_E G F_L_law_ res 1883 [some (.ref 2000), some (.ref 0), some (.ref 272), some (.ref 287), some (.int x384), some (.int x385), none] [.int x387, .int x386, .ref 272] m388 (400 + Int32.toNatClampNeg x384 + 2) (30000 + 6 * Int32.toNatClampNeg x384 + 12) (f_L_law__j1883 G x384 x385 x386 x387 m388) Φ := by
  unfold f_L_law__j1883
  refine ev_clI (F1 := F_X12_rests) (fun rY mY hY => ea_runV (As := [.int x386, .int x387]) (ea_at dt_L_law__18 36 rfl) ml_L_224 mv_X12_rests (ok_X12_rests G x386 x387 m388 rY mY hY) sh_272 rfl rfl rfl (Nat.le_of_ble_eq_true rfl) (ea_okK rfl (show 400 + Int32.toNatClampNeg x384 + 2 + 0 ≤ 601024 from by omega) (show 30000 + 6 * Int32.toNatClampNeg x384 + 12 + 0 ≤ 7293034 from by omega))) rfl (fun r390 m389 => ?_)
  refine ev_istore (ls' := [some (.ref 2000), some (.ref 0), some (.ref 272), some (.ref 287), some (.int x384), some (.int x385), some (.int r390)]) (ea_at dt_L_law__18 37 rfl) (ea_lt rfl) rfl ?_
  refine ev_aload_n (ea_at dt_L_law__18 38 rfl) rfl ?_
  refine ev_clI (F1 := F_X12_thrown) (fun rY mY hY => ea_runV (As := []) (ea_at dt_L_law__18 39 rfl) ml_L_148 mv_X12_thrown (ok_X12_thrown G m389 rY mY hY) sh_272 rfl rfl rfl (Nat.le_of_ble_eq_true rfl) (ea_okK rfl (show 400 + Int32.toNatClampNeg x384 + 2 + 0 + 0 ≤ 601024 from by omega) (show 30000 + 6 * Int32.toNatClampNeg x384 + 12 + 0 + 0 ≤ 7293034 from by omega))) rfl (fun r392 m391 => ?_)
  refine ev_iload (ea_at dt_L_law__18 40 rfl) rfl ?_
  refine ev_icmp_eq (tgt := 1899) (ea_at dt_L_law__18 41 rfl) rfl (fun _ => ?_) (fun _ => ?_)
  · refine ev_iload (ea_at dt_L_law__18 44 rfl) rfl ?_
    refine ev_if_ne (tgt := 1916) (ea_at dt_L_law__18 45 rfl) rfl (fun _ => ?_) (fun _ => ?_)
    · refine ev_aload_n (ea_at dt_L_law__18 46 rfl) rfl ?_
      refine ev_iconst (ea_at dt_L_law__18 47 rfl) ic_0 ?_
      refine ev_laloadC (j := 0) (ea_at dt_L_law__18 48 rfl) sh_287 (by decide) (by decide) (by decide) ?_
      refine ev_iload (ea_at dt_L_law__18 49 rfl) rfl ?_
      refine ev_i2l (ea_at dt_L_law__18 50 rfl) ?_
      refine ev_lcmp (ea_at dt_L_law__18 51 rfl) ?_
      refine ev_if_eq (tgt := 1916) (ea_at dt_L_law__18 52 rfl) rfl (fun _ => ?_) (fun _ => ?_)
      · refine ev_wid (k' := 400 + Int32.toNatClampNeg x384 + 6) (n' := 30000 + 6 * Int32.toNatClampNeg x384 + 36) (show 400 + Int32.toNatClampNeg x384 + 2 + 0 + 0 ≤ 400 + Int32.toNatClampNeg x384 + 6 from by omega) (show 30000 + 6 * Int32.toNatClampNeg x384 + 12 + 0 + 0 ≤ 30000 + 6 * Int32.toNatClampNeg x384 + 36 from by omega) ?_
        exact ev_drop (l' := [some (.ref 2000), some (.ref 0), some (.ref 272), some (.ref 287), some (.int x384), none, none]) ⟨Or.inr rfl, Or.inr rfl, Or.inr rfl, Or.inr rfl, Or.inr rfl, Or.inl rfl, Or.inl rfl, trivial⟩ (jn_L_law__1916 G x384 m391 hx384 hC hR hX)
      · refine ev_iconst (ea_at dt_L_law__18 53 rfl) ic_0 ?_
        exact ev_zret (by decide) (ea_at dt_L_law__18 54 rfl) rfl ⟨show 400 + Int32.toNatClampNeg x384 + 2 + 0 + 0 ≤ 601024 from by omega, show 30000 + 6 * Int32.toNatClampNeg x384 + 12 + 0 + 0 ≤ 7293034 from by omega⟩ (fun h => hR _ h)
    · refine ev_wid (k' := 400 + Int32.toNatClampNeg x384 + 6) (n' := 30000 + 6 * Int32.toNatClampNeg x384 + 36) (show 400 + Int32.toNatClampNeg x384 + 2 + 0 + 0 ≤ 400 + Int32.toNatClampNeg x384 + 6 from by omega) (show 30000 + 6 * Int32.toNatClampNeg x384 + 12 + 0 + 0 ≤ 30000 + 6 * Int32.toNatClampNeg x384 + 36 from by omega) ?_
      exact ev_drop (l' := [some (.ref 2000), some (.ref 0), some (.ref 272), some (.ref 287), some (.int x384), none, none]) ⟨Or.inr rfl, Or.inr rfl, Or.inr rfl, Or.inr rfl, Or.inr rfl, Or.inl rfl, Or.inl rfl, trivial⟩ (jn_L_law__1916 G x384 m391 hx384 hC hR hX)
  · refine ev_iconst (ea_at dt_L_law__18 42 rfl) ic_0 ?_
    exact ev_zret (by decide) (ea_at dt_L_law__18 43 rfl) rfl ⟨show 400 + Int32.toNatClampNeg x384 + 2 + 0 + 0 ≤ 601024 from by omega, show 30000 + 6 * Int32.toNatClampNeg x384 + 12 + 0 + 0 ≤ 7293034 from by omega⟩ (fun h => hR _ h)
set_option maxHeartbeats 300000 in
theorem jn_L_law__1856 (G : ea_G) {res : ea_O}  (x376 : Int32) (x377 : Int32) (x378 : Int32) (m379 : ea_M) (hx376 : Int32.toNatClampNeg x376 ≤ 4000) {Φ : ((Int32 × ea_M) ⊕ ((Int32 × ea_M) ⊕ (ea_M))) → Prop} (hC : ∀ s23 : Int32 × ea_M, Φ (.inl s23) → ea_Ev G F_L_law_ res 23 [some (.ref 2000), some (.ref 0), some (.ref 272), some (.ref 287), some (.int s23.1), none, none] [] s23.2 (400 + Int32.toNatClampNeg s23.1) (30000 + 6 * Int32.toNatClampNeg s23.1)) (hR : ∀ t : Int32 × ea_M, Φ (.inr (.inl t)) → res = (0, t)) (hX : ∀ x23s : ea_M, Φ (.inr (.inr x23s)) → ea_Ev G F_L_law_ res 2851 [none, none, none, none, none, none, none] [] x23s 5000 60000) : ea_E G F_L_law_ res 1856 [some (.ref 2000), some (.ref 0), some (.ref 272), some (.ref 287), some (.int x376), none, none] [.int x378, .int x377, .ref 0] m379 (400 + Int32.toNatClampNeg x376) (30000 + 6 * Int32.toNatClampNeg x376) (f_L_law__j1856 G x376 x377 x378 m379) Φ := by
  unfold f_L_law__j1856
  refine ev_aload_n (ea_at dt_L_law__18 18 rfl) rfl ?_
  refine ev_clI (F1 := F_L_rests) (fun rY mY hY => ea_runSH (As := [.ref 0, .int x377, .int x378, .ref 287]) (ea_at dt_L_law__18 19 rfl) ml_L_222 mv_L_rests (ok_L_rests G x377 x378 m379 rY mY hY) rfl rfl (Nat.le_of_ble_eq_true rfl) (ea_okK rfl (show 400 + Int32.toNatClampNeg x376 + 2 ≤ 601024 from by omega) (show 30000 + 6 * Int32.toNatClampNeg x376 + 12 ≤ 7293034 from by omega))) rfl (fun r381 m380 => ?_)
  refine ev_istore (ls' := [some (.ref 2000), some (.ref 0), some (.ref 272), some (.ref 287), some (.int x376), some (.int r381), none]) (ea_at dt_L_law__18 20 rfl) (ea_lt rfl) rfl ?_
  refine ev_aload_n (ea_at dt_L_law__18 21 rfl) rfl ?_
  refine ev_aload_n (ea_at dt_L_law__18 22 rfl) rfl ?_
  refine ev_iload (ea_at dt_L_law__18 23 rfl) rfl ?_
  refine ev_iconst (ea_at dt_L_law__18 24 rfl) ic_1 ?_
  refine ev_iadd (ea_at dt_L_law__18 25 rfl) ?_
  refine ev_script (ea_at dt_L_law__18 26 rfl) ?_
  refine ev_i (fun x382 => ?_)
  refine ev_aload_n (ea_at dt_L_law__18 27 rfl) rfl ?_
  refine ev_iload (ea_at dt_L_law__18 28 rfl) rfl ?_
  refine ev_iconst (ea_at dt_L_law__18 29 rfl) ic_2 ?_
  refine ev_iadd (ea_at dt_L_law__18 30 rfl) ?_
  refine ev_script (ea_at dt_L_law__18 31 rfl) ?_
  refine ev_i (fun x383 => ?_)
  refine ev_if_eq (tgt := 1882) (ea_at dt_L_law__18 32 rfl) rfl (fun _ => ?_) (fun _ => ?_)
  · refine ev_iconst (ea_at dt_L_law__18 35 rfl) ic_0 ?_
    refine ev_wid (k' := 400 + Int32.toNatClampNeg x376 + 2) (n' := 30000 + 6 * Int32.toNatClampNeg x376 + 12) (show 400 + Int32.toNatClampNeg x376 + 2 ≤ 400 + Int32.toNatClampNeg x376 + 2 from by omega) (show 30000 + 6 * Int32.toNatClampNeg x376 + 12 ≤ 30000 + 6 * Int32.toNatClampNeg x376 + 12 from by omega) ?_
    exact ev_drop (l' := [some (.ref 2000), some (.ref 0), some (.ref 272), some (.ref 287), some (.int x376), some (.int r381), none]) ⟨Or.inr rfl, Or.inr rfl, Or.inr rfl, Or.inr rfl, Or.inr rfl, Or.inr rfl, Or.inl rfl, trivial⟩ (jn_L_law__1883 G x376 r381 x382 0 m380 hx376 hC hR hX)
  · refine ev_iconst (ea_at dt_L_law__18 33 rfl) ic_1 ?_
    refine ev_goto (tgt := 1883) (ea_at dt_L_law__18 34 rfl) rfl ?_
    refine ev_wid (k' := 400 + Int32.toNatClampNeg x376 + 2) (n' := 30000 + 6 * Int32.toNatClampNeg x376 + 12) (show 400 + Int32.toNatClampNeg x376 + 2 ≤ 400 + Int32.toNatClampNeg x376 + 2 from by omega) (show 30000 + 6 * Int32.toNatClampNeg x376 + 12 ≤ 30000 + 6 * Int32.toNatClampNeg x376 + 12 from by omega) ?_
    exact ev_drop (l' := [some (.ref 2000), some (.ref 0), some (.ref 272), some (.ref 287), some (.int x376), some (.int r381), none]) ⟨Or.inr rfl, Or.inr rfl, Or.inr rfl, Or.inr rfl, Or.inr rfl, Or.inr rfl, Or.inl rfl, trivial⟩ (jn_L_law__1883 G x376 r381 x382 1 m380 hx376 hC hR hX)
set_option maxHeartbeats 300000 in
theorem jn_L_law__1835 (G : ea_G) {res : ea_O}  (x372 : Int32) (m373 : ea_M) (hx372 : Int32.toNatClampNeg x372 ≤ 4000) {Φ : ((Int32 × ea_M) ⊕ ((Int32 × ea_M) ⊕ (ea_M))) → Prop} (hC : ∀ s23 : Int32 × ea_M, Φ (.inl s23) → ea_Ev G F_L_law_ res 23 [some (.ref 2000), some (.ref 0), some (.ref 272), some (.ref 287), some (.int s23.1), none, none] [] s23.2 (400 + Int32.toNatClampNeg s23.1) (30000 + 6 * Int32.toNatClampNeg s23.1)) (hR : ∀ t : Int32 × ea_M, Φ (.inr (.inl t)) → res = (0, t)) (hX : ∀ x23s : ea_M, Φ (.inr (.inr x23s)) → ea_Ev G F_L_law_ res 2851 [none, none, none, none, none, none, none] [] x23s 5000 60000) : ea_E G F_L_law_ res 1835 [some (.ref 2000), some (.ref 0), some (.ref 272), some (.ref 287), some (.int x372), none, none] [] m373 (400 + Int32.toNatClampNeg x372) (30000 + 6 * Int32.toNatClampNeg x372) (f_L_law__j1835 G x372 m373) Φ := by
  unfold f_L_law__j1835
  refine ev_aload_n (ea_at dt_L_law__18 3 rfl) rfl ?_
  refine ev_aload_n (ea_at dt_L_law__18 4 rfl) rfl ?_
  refine ev_iload (ea_at dt_L_law__18 5 rfl) rfl ?_
  refine ev_iconst (ea_at dt_L_law__18 6 rfl) ic_1 ?_
  refine ev_iadd (ea_at dt_L_law__18 7 rfl) ?_
  refine ev_script (ea_at dt_L_law__18 8 rfl) ?_
  refine ev_i (fun x374 => ?_)
  refine ev_aload_n (ea_at dt_L_law__18 9 rfl) rfl ?_
  refine ev_iload (ea_at dt_L_law__18 10 rfl) rfl ?_
  refine ev_iconst (ea_at dt_L_law__18 11 rfl) ic_2 ?_
  refine ev_iadd (ea_at dt_L_law__18 12 rfl) ?_
  refine ev_script (ea_at dt_L_law__18 13 rfl) ?_
  refine ev_i (fun x375 => ?_)
  refine ev_if_eq (tgt := 1855) (ea_at dt_L_law__18 14 rfl) rfl (fun _ => ?_) (fun _ => ?_)
  · refine ev_iconst (ea_at dt_L_law__18 17 rfl) ic_0 ?_
    refine ev_wid (k' := 400 + Int32.toNatClampNeg x372) (n' := 30000 + 6 * Int32.toNatClampNeg x372) (show 400 + Int32.toNatClampNeg x372 ≤ 400 + Int32.toNatClampNeg x372 from by omega) (show 30000 + 6 * Int32.toNatClampNeg x372 ≤ 30000 + 6 * Int32.toNatClampNeg x372 from by omega) ?_
    exact ev_drop (l' := [some (.ref 2000), some (.ref 0), some (.ref 272), some (.ref 287), some (.int x372), none, none]) ⟨Or.inr rfl, Or.inr rfl, Or.inr rfl, Or.inr rfl, Or.inr rfl, Or.inl rfl, Or.inl rfl, trivial⟩ (jn_L_law__1856 G x372 x374 0 m373 hx372 hC hR hX)
  · refine ev_iconst (ea_at dt_L_law__18 15 rfl) ic_1 ?_
    refine ev_goto (tgt := 1856) (ea_at dt_L_law__18 16 rfl) rfl ?_
    refine ev_wid (k' := 400 + Int32.toNatClampNeg x372) (n' := 30000 + 6 * Int32.toNatClampNeg x372) (show 400 + Int32.toNatClampNeg x372 ≤ 400 + Int32.toNatClampNeg x372 from by omega) (show 30000 + 6 * Int32.toNatClampNeg x372 ≤ 30000 + 6 * Int32.toNatClampNeg x372 from by omega) ?_
    exact ev_drop (l' := [some (.ref 2000), some (.ref 0), some (.ref 272), some (.ref 287), some (.int x372), none, none]) ⟨Or.inr rfl, Or.inr rfl, Or.inr rfl, Or.inr rfl, Or.inr rfl, Or.inl rfl, Or.inl rfl, trivial⟩ (jn_L_law__1856 G x372 x374 1 m373 hx372 hC hR hX)
set_option maxHeartbeats 300000 in
theorem jn_L_law__1972 (G : ea_G) {res : ea_O}  (x405 : Int32) (m406 : ea_M) (hx405 : Int32.toNatClampNeg x405 ≤ 4000) {Φ : ((Int32 × ea_M) ⊕ ((Int32 × ea_M) ⊕ (ea_M))) → Prop} (hC : ∀ s23 : Int32 × ea_M, Φ (.inl s23) → ea_Ev G F_L_law_ res 23 [some (.ref 2000), some (.ref 0), some (.ref 272), some (.ref 287), some (.int s23.1), none, none] [] s23.2 (400 + Int32.toNatClampNeg s23.1) (30000 + 6 * Int32.toNatClampNeg s23.1)) (hR : ∀ t : Int32 × ea_M, Φ (.inr (.inl t)) → res = (0, t)) (hX : ∀ x23s : ea_M, Φ (.inr (.inr x23s)) → ea_Ev G F_L_law_ res 2851 [none, none, none, none, none, none, none] [] x23s 5000 60000) : ea_E G F_L_law_ res 1972 [some (.ref 2000), some (.ref 0), some (.ref 272), some (.ref 287), some (.int x405), none, none] [] m406 (400 + Int32.toNatClampNeg x405 + 6) (30000 + 6 * Int32.toNatClampNeg x405 + 36) (f_L_law__j1972 G x405 m406) Φ := by
  unfold f_L_law__j1972
  refine ev_goto (tgt := 2845) (ea_at dt_L_law__19 30 rfl) rfl ?_
  refine ev_wid (k' := 400 + Int32.toNatClampNeg x405 + 6) (n' := 30000 + 6 * Int32.toNatClampNeg x405 + 36) (show 400 + Int32.toNatClampNeg x405 + 6 ≤ 400 + Int32.toNatClampNeg x405 + 6 from by omega) (show 30000 + 6 * Int32.toNatClampNeg x405 + 36 ≤ 30000 + 6 * Int32.toNatClampNeg x405 + 36 from by omega) ?_
  exact ev_drop (l' := [some (.ref 2000), some (.ref 0), some (.ref 272), some (.ref 287), some (.int x405), none, none]) ⟨Or.inr rfl, Or.inr rfl, Or.inr rfl, Or.inr rfl, Or.inr rfl, Or.inl rfl, Or.inl rfl, trivial⟩ (jn_L_law__2845 G x405 m406 hx405 hC hR hX)
set_option maxHeartbeats 300000 in
theorem jn_L_law__1919 (G : ea_G) {res : ea_O}  (x395 : Int32) (m396 : ea_M) (hx395 : Int32.toNatClampNeg x395 ≤ 4000) {Φ : ((Int32 × ea_M) ⊕ ((Int32 × ea_M) ⊕ (ea_M))) → Prop} (hC : ∀ s23 : Int32 × ea_M, Φ (.inl s23) → ea_Ev G F_L_law_ res 23 [some (.ref 2000), some (.ref 0), some (.ref 272), some (.ref 287), some (.int s23.1), none, none] [] s23.2 (400 + Int32.toNatClampNeg s23.1) (30000 + 6 * Int32.toNatClampNeg s23.1)) (hR : ∀ t : Int32 × ea_M, Φ (.inr (.inl t)) → res = (0, t)) (hX : ∀ x23s : ea_M, Φ (.inr (.inr x23s)) → ea_Ev G F_L_law_ res 2851 [none, none, none, none, none, none, none] [] x23s 5000 60000) : ea_E G F_L_law_ res 1919 [some (.ref 2000), some (.ref 0), some (.ref 272), some (.ref 287), some (.int x395), none, none] [] m396 (400 + Int32.toNatClampNeg x395) (30000 + 6 * Int32.toNatClampNeg x395) (f_L_law__j1919 G x395 m396) Φ := by
  unfold f_L_law__j1919
  refine ev_aload_n (ea_at dt_L_law__18 56 rfl) rfl ?_
  refine ev_aload_n (ea_at dt_L_law__18 57 rfl) rfl ?_
  refine ev_iload (ea_at dt_L_law__18 58 rfl) rfl ?_
  refine ev_iconst (ea_at dt_L_law__18 59 rfl) ic_1 ?_
  refine ev_iadd (ea_at dt_L_law__19 0 rfl) ?_
  refine ev_script (ea_at dt_L_law__19 1 rfl) ?_
  refine ev_i (fun x397 => ?_)
  refine ev_aload_n (ea_at dt_L_law__19 2 rfl) rfl ?_
  refine ev_clI (F1 := F_L_fair) (fun rY mY hY => ea_runSH (As := [.ref 0, .int x397, .ref 287]) (ea_at dt_L_law__19 3 rfl) ml_L_225 mv_L_fair (ok_L_fair G x397 m396 rY mY hY) rfl rfl (Nat.le_of_ble_eq_true rfl) (ea_okK rfl (show 400 + Int32.toNatClampNeg x395 + 2 ≤ 601024 from by omega) (show 30000 + 6 * Int32.toNatClampNeg x395 + 12 ≤ 7293034 from by omega))) rfl (fun r399 m398 => ?_)
  refine ev_istore (ls' := [some (.ref 2000), some (.ref 0), some (.ref 272), some (.ref 287), some (.int x395), some (.int r399), none]) (ea_at dt_L_law__19 4 rfl) (ea_lt rfl) rfl ?_
  refine ev_aload_n (ea_at dt_L_law__19 5 rfl) rfl ?_
  refine ev_aload_n (ea_at dt_L_law__19 6 rfl) rfl ?_
  refine ev_iload (ea_at dt_L_law__19 7 rfl) rfl ?_
  refine ev_iconst (ea_at dt_L_law__19 8 rfl) ic_1 ?_
  refine ev_iadd (ea_at dt_L_law__19 9 rfl) ?_
  refine ev_script (ea_at dt_L_law__19 10 rfl) ?_
  refine ev_i (fun x400 => ?_)
  refine ev_clI (F1 := F_X12_fair) (fun rY mY hY => ea_runV (As := [.int x400]) (ea_at dt_L_law__19 11 rfl) ml_L_227 mv_X12_fair (ok_X12_fair G x400 m398 rY mY hY) sh_272 rfl rfl rfl (Nat.le_of_ble_eq_true rfl) (ea_okK rfl (show 400 + Int32.toNatClampNeg x395 + 2 + 0 ≤ 601024 from by omega) (show 30000 + 6 * Int32.toNatClampNeg x395 + 12 + 0 ≤ 7293034 from by omega))) rfl (fun r402 m401 => ?_)
  refine ev_istore (ls' := [some (.ref 2000), some (.ref 0), some (.ref 272), some (.ref 287), some (.int x395), some (.int r399), some (.int r402)]) (ea_at dt_L_law__19 12 rfl) (ea_lt rfl) rfl ?_
  refine ev_aload_n (ea_at dt_L_law__19 13 rfl) rfl ?_
  refine ev_clI (F1 := F_X12_thrown) (fun rY mY hY => ea_runV (As := []) (ea_at dt_L_law__19 14 rfl) ml_L_148 mv_X12_thrown (ok_X12_thrown G m401 rY mY hY) sh_272 rfl rfl rfl (Nat.le_of_ble_eq_true rfl) (ea_okK rfl (show 400 + Int32.toNatClampNeg x395 + 2 + 0 + 0 ≤ 601024 from by omega) (show 30000 + 6 * Int32.toNatClampNeg x395 + 12 + 0 + 0 ≤ 7293034 from by omega))) rfl (fun r404 m403 => ?_)
  refine ev_iload (ea_at dt_L_law__19 15 rfl) rfl ?_
  refine ev_icmp_eq (tgt := 1955) (ea_at dt_L_law__19 16 rfl) rfl (fun _ => ?_) (fun _ => ?_)
  · refine ev_iload (ea_at dt_L_law__19 19 rfl) rfl ?_
    refine ev_if_ne (tgt := 1972) (ea_at dt_L_law__19 20 rfl) rfl (fun _ => ?_) (fun _ => ?_)
    · refine ev_aload_n (ea_at dt_L_law__19 21 rfl) rfl ?_
      refine ev_iconst (ea_at dt_L_law__19 22 rfl) ic_0 ?_
      refine ev_laloadC (j := 0) (ea_at dt_L_law__19 23 rfl) sh_287 (by decide) (by decide) (by decide) ?_
      refine ev_iload (ea_at dt_L_law__19 24 rfl) rfl ?_
      refine ev_i2l (ea_at dt_L_law__19 25 rfl) ?_
      refine ev_lcmp (ea_at dt_L_law__19 26 rfl) ?_
      refine ev_if_eq (tgt := 1972) (ea_at dt_L_law__19 27 rfl) rfl (fun _ => ?_) (fun _ => ?_)
      · refine ev_wid (k' := 400 + Int32.toNatClampNeg x395 + 6) (n' := 30000 + 6 * Int32.toNatClampNeg x395 + 36) (show 400 + Int32.toNatClampNeg x395 + 2 + 0 + 0 ≤ 400 + Int32.toNatClampNeg x395 + 6 from by omega) (show 30000 + 6 * Int32.toNatClampNeg x395 + 12 + 0 + 0 ≤ 30000 + 6 * Int32.toNatClampNeg x395 + 36 from by omega) ?_
        exact ev_drop (l' := [some (.ref 2000), some (.ref 0), some (.ref 272), some (.ref 287), some (.int x395), none, none]) ⟨Or.inr rfl, Or.inr rfl, Or.inr rfl, Or.inr rfl, Or.inr rfl, Or.inl rfl, Or.inl rfl, trivial⟩ (jn_L_law__1972 G x395 m403 hx395 hC hR hX)
      · refine ev_iconst (ea_at dt_L_law__19 28 rfl) ic_0 ?_
        exact ev_zret (by decide) (ea_at dt_L_law__19 29 rfl) rfl ⟨show 400 + Int32.toNatClampNeg x395 + 2 + 0 + 0 ≤ 601024 from by omega, show 30000 + 6 * Int32.toNatClampNeg x395 + 12 + 0 + 0 ≤ 7293034 from by omega⟩ (fun h => hR _ h)
    · refine ev_wid (k' := 400 + Int32.toNatClampNeg x395 + 6) (n' := 30000 + 6 * Int32.toNatClampNeg x395 + 36) (show 400 + Int32.toNatClampNeg x395 + 2 + 0 + 0 ≤ 400 + Int32.toNatClampNeg x395 + 6 from by omega) (show 30000 + 6 * Int32.toNatClampNeg x395 + 12 + 0 + 0 ≤ 30000 + 6 * Int32.toNatClampNeg x395 + 36 from by omega) ?_
      exact ev_drop (l' := [some (.ref 2000), some (.ref 0), some (.ref 272), some (.ref 287), some (.int x395), none, none]) ⟨Or.inr rfl, Or.inr rfl, Or.inr rfl, Or.inr rfl, Or.inr rfl, Or.inl rfl, Or.inl rfl, trivial⟩ (jn_L_law__1972 G x395 m403 hx395 hC hR hX)
  · refine ev_iconst (ea_at dt_L_law__19 17 rfl) ic_0 ?_
    exact ev_zret (by decide) (ea_at dt_L_law__19 18 rfl) rfl ⟨show 400 + Int32.toNatClampNeg x395 + 2 + 0 + 0 ≤ 601024 from by omega, show 30000 + 6 * Int32.toNatClampNeg x395 + 12 + 0 + 0 ≤ 7293034 from by omega⟩ (fun h => hR _ h)
set_option maxHeartbeats 300000 in
theorem jn_L_law__2044 (G : ea_G) {res : ea_O}  (x424 : Int32) (m425 : ea_M) (hx424 : Int32.toNatClampNeg x424 ≤ 4000) {Φ : ((Int32 × ea_M) ⊕ ((Int32 × ea_M) ⊕ (ea_M))) → Prop} (hC : ∀ s23 : Int32 × ea_M, Φ (.inl s23) → ea_Ev G F_L_law_ res 23 [some (.ref 2000), some (.ref 0), some (.ref 272), some (.ref 287), some (.int s23.1), none, none] [] s23.2 (400 + Int32.toNatClampNeg s23.1) (30000 + 6 * Int32.toNatClampNeg s23.1)) (hR : ∀ t : Int32 × ea_M, Φ (.inr (.inl t)) → res = (0, t)) (hX : ∀ x23s : ea_M, Φ (.inr (.inr x23s)) → ea_Ev G F_L_law_ res 2851 [none, none, none, none, none, none, none] [] x23s 5000 60000) : ea_E G F_L_law_ res 2044 [some (.ref 2000), some (.ref 0), some (.ref 272), some (.ref 287), some (.int x424), none, none] [] m425 (400 + Int32.toNatClampNeg x424 + 6) (30000 + 6 * Int32.toNatClampNeg x424 + 36) (f_L_law__j2044 G x424 m425) Φ := by
  unfold f_L_law__j2044
  refine ev_goto (tgt := 2845) (ea_at dt_L_law__20 13 rfl) rfl ?_
  refine ev_wid (k' := 400 + Int32.toNatClampNeg x424 + 6) (n' := 30000 + 6 * Int32.toNatClampNeg x424 + 36) (show 400 + Int32.toNatClampNeg x424 + 6 ≤ 400 + Int32.toNatClampNeg x424 + 6 from by omega) (show 30000 + 6 * Int32.toNatClampNeg x424 + 36 ≤ 30000 + 6 * Int32.toNatClampNeg x424 + 36 from by omega) ?_
  exact ev_drop (l' := [some (.ref 2000), some (.ref 0), some (.ref 272), some (.ref 287), some (.int x424), none, none]) ⟨Or.inr rfl, Or.inr rfl, Or.inr rfl, Or.inr rfl, Or.inr rfl, Or.inl rfl, Or.inl rfl, trivial⟩ (jn_L_law__2845 G x424 m425 hx424 hC hR hX)
set_option maxHeartbeats 300000 in
theorem jn_L_law__2011 (G : ea_G) {res : ea_O}  (x416 : Int32) (x417 : Int32) (x418 : Int32) (m419 : ea_M) (hx416 : Int32.toNatClampNeg x416 ≤ 4000) {Φ : ((Int32 × ea_M) ⊕ ((Int32 × ea_M) ⊕ (ea_M))) → Prop} (hC : ∀ s23 : Int32 × ea_M, Φ (.inl s23) → ea_Ev G F_L_law_ res 23 [some (.ref 2000), some (.ref 0), some (.ref 272), some (.ref 287), some (.int s23.1), none, none] [] s23.2 (400 + Int32.toNatClampNeg s23.1) (30000 + 6 * Int32.toNatClampNeg s23.1)) (hR : ∀ t : Int32 × ea_M, Φ (.inr (.inl t)) → res = (0, t)) (hX : ∀ x23s : ea_M, Φ (.inr (.inr x23s)) → ea_Ev G F_L_law_ res 2851 [none, none, none, none, none, none, none] [] x23s 5000 60000) : ea_E G F_L_law_ res 2011 [some (.ref 2000), some (.ref 0), some (.ref 272), some (.ref 287), some (.int x416), some (.int x417), none] [.int x418, .ref 272] m419 (400 + Int32.toNatClampNeg x416 + 1) (30000 + 6 * Int32.toNatClampNeg x416 + 6) (f_L_law__j2011 G x416 x417 x418 m419) Φ := by
  unfold f_L_law__j2011
  refine ev_clI (F1 := F_X12_songs) (fun rY mY hY => ea_runV (As := [.int x418]) (ea_at dt_L_law__19 54 rfl) ml_L_231 mv_X12_songs (ok_X12_songs G x418 m419 rY mY hY) sh_272 rfl rfl rfl (Nat.le_of_ble_eq_true rfl) (ea_okK rfl (show 400 + Int32.toNatClampNeg x416 + 1 + 0 ≤ 601024 from by omega) (show 30000 + 6 * Int32.toNatClampNeg x416 + 6 + 0 ≤ 7293034 from by omega))) rfl (fun r421 m420 => ?_)
  refine ev_istore (ls' := [some (.ref 2000), some (.ref 0), some (.ref 272), some (.ref 287), some (.int x416), some (.int x417), some (.int r421)]) (ea_at dt_L_law__19 55 rfl) (ea_lt rfl) rfl ?_
  refine ev_aload_n (ea_at dt_L_law__19 56 rfl) rfl ?_
  refine ev_clI (F1 := F_X12_thrown) (fun rY mY hY => ea_runV (As := []) (ea_at dt_L_law__19 57 rfl) ml_L_148 mv_X12_thrown (ok_X12_thrown G m420 rY mY hY) sh_272 rfl rfl rfl (Nat.le_of_ble_eq_true rfl) (ea_okK rfl (show 400 + Int32.toNatClampNeg x416 + 1 + 0 + 0 ≤ 601024 from by omega) (show 30000 + 6 * Int32.toNatClampNeg x416 + 6 + 0 + 0 ≤ 7293034 from by omega))) rfl (fun r423 m422 => ?_)
  refine ev_iload (ea_at dt_L_law__19 58 rfl) rfl ?_
  refine ev_icmp_eq (tgt := 2027) (ea_at dt_L_law__19 59 rfl) rfl (fun _ => ?_) (fun _ => ?_)
  · refine ev_iload (ea_at dt_L_law__20 2 rfl) rfl ?_
    refine ev_if_ne (tgt := 2044) (ea_at dt_L_law__20 3 rfl) rfl (fun _ => ?_) (fun _ => ?_)
    · refine ev_aload_n (ea_at dt_L_law__20 4 rfl) rfl ?_
      refine ev_iconst (ea_at dt_L_law__20 5 rfl) ic_0 ?_
      refine ev_laloadC (j := 0) (ea_at dt_L_law__20 6 rfl) sh_287 (by decide) (by decide) (by decide) ?_
      refine ev_iload (ea_at dt_L_law__20 7 rfl) rfl ?_
      refine ev_i2l (ea_at dt_L_law__20 8 rfl) ?_
      refine ev_lcmp (ea_at dt_L_law__20 9 rfl) ?_
      refine ev_if_eq (tgt := 2044) (ea_at dt_L_law__20 10 rfl) rfl (fun _ => ?_) (fun _ => ?_)
      · refine ev_wid (k' := 400 + Int32.toNatClampNeg x416 + 6) (n' := 30000 + 6 * Int32.toNatClampNeg x416 + 36) (show 400 + Int32.toNatClampNeg x416 + 1 + 0 + 0 ≤ 400 + Int32.toNatClampNeg x416 + 6 from by omega) (show 30000 + 6 * Int32.toNatClampNeg x416 + 6 + 0 + 0 ≤ 30000 + 6 * Int32.toNatClampNeg x416 + 36 from by omega) ?_
        exact ev_drop (l' := [some (.ref 2000), some (.ref 0), some (.ref 272), some (.ref 287), some (.int x416), none, none]) ⟨Or.inr rfl, Or.inr rfl, Or.inr rfl, Or.inr rfl, Or.inr rfl, Or.inl rfl, Or.inl rfl, trivial⟩ (jn_L_law__2044 G x416 m422 hx416 hC hR hX)
      · refine ev_iconst (ea_at dt_L_law__20 11 rfl) ic_0 ?_
        exact ev_zret (by decide) (ea_at dt_L_law__20 12 rfl) rfl ⟨show 400 + Int32.toNatClampNeg x416 + 1 + 0 + 0 ≤ 601024 from by omega, show 30000 + 6 * Int32.toNatClampNeg x416 + 6 + 0 + 0 ≤ 7293034 from by omega⟩ (fun h => hR _ h)
    · refine ev_wid (k' := 400 + Int32.toNatClampNeg x416 + 6) (n' := 30000 + 6 * Int32.toNatClampNeg x416 + 36) (show 400 + Int32.toNatClampNeg x416 + 1 + 0 + 0 ≤ 400 + Int32.toNatClampNeg x416 + 6 from by omega) (show 30000 + 6 * Int32.toNatClampNeg x416 + 6 + 0 + 0 ≤ 30000 + 6 * Int32.toNatClampNeg x416 + 36 from by omega) ?_
      exact ev_drop (l' := [some (.ref 2000), some (.ref 0), some (.ref 272), some (.ref 287), some (.int x416), none, none]) ⟨Or.inr rfl, Or.inr rfl, Or.inr rfl, Or.inr rfl, Or.inr rfl, Or.inl rfl, Or.inl rfl, trivial⟩ (jn_L_law__2044 G x416 m422 hx416 hC hR hX)
  · refine ev_iconst (ea_at dt_L_law__20 0 rfl) ic_0 ?_
    exact ev_zret (by decide) (ea_at dt_L_law__20 1 rfl) rfl ⟨show 400 + Int32.toNatClampNeg x416 + 1 + 0 + 0 ≤ 601024 from by omega, show 30000 + 6 * Int32.toNatClampNeg x416 + 6 + 0 + 0 ≤ 7293034 from by omega⟩ (fun h => hR _ h)
set_option maxHeartbeats 300000 in
theorem jn_L_law__1990 (G : ea_G) {res : ea_O}  (x410 : Int32) (x411 : Int32) (m412 : ea_M) (hx410 : Int32.toNatClampNeg x410 ≤ 4000) {Φ : ((Int32 × ea_M) ⊕ ((Int32 × ea_M) ⊕ (ea_M))) → Prop} (hC : ∀ s23 : Int32 × ea_M, Φ (.inl s23) → ea_Ev G F_L_law_ res 23 [some (.ref 2000), some (.ref 0), some (.ref 272), some (.ref 287), some (.int s23.1), none, none] [] s23.2 (400 + Int32.toNatClampNeg s23.1) (30000 + 6 * Int32.toNatClampNeg s23.1)) (hR : ∀ t : Int32 × ea_M, Φ (.inr (.inl t)) → res = (0, t)) (hX : ∀ x23s : ea_M, Φ (.inr (.inr x23s)) → ea_Ev G F_L_law_ res 2851 [none, none, none, none, none, none, none] [] x23s 5000 60000) : ea_E G F_L_law_ res 1990 [some (.ref 2000), some (.ref 0), some (.ref 272), some (.ref 287), some (.int x410), none, none] [.int x411, .ref 0] m412 (400 + Int32.toNatClampNeg x410) (30000 + 6 * Int32.toNatClampNeg x410) (f_L_law__j1990 G x410 x411 m412) Φ := by
  unfold f_L_law__j1990
  refine ev_aload_n (ea_at dt_L_law__19 41 rfl) rfl ?_
  refine ev_clI (F1 := F_L_songs) (fun rY mY hY => ea_runSH (As := [.ref 0, .int x411, .ref 287]) (ea_at dt_L_law__19 42 rfl) ml_L_228 mv_L_songs (ok_L_songs G x411 m412 rY mY hY) rfl rfl (Nat.le_of_ble_eq_true rfl) (ea_okK rfl (show 400 + Int32.toNatClampNeg x410 + 1 ≤ 601024 from by omega) (show 30000 + 6 * Int32.toNatClampNeg x410 + 6 ≤ 7293034 from by omega))) rfl (fun r414 m413 => ?_)
  refine ev_istore (ls' := [some (.ref 2000), some (.ref 0), some (.ref 272), some (.ref 287), some (.int x410), some (.int r414), none]) (ea_at dt_L_law__19 43 rfl) (ea_lt rfl) rfl ?_
  refine ev_aload_n (ea_at dt_L_law__19 44 rfl) rfl ?_
  refine ev_aload_n (ea_at dt_L_law__19 45 rfl) rfl ?_
  refine ev_iload (ea_at dt_L_law__19 46 rfl) rfl ?_
  refine ev_iconst (ea_at dt_L_law__19 47 rfl) ic_1 ?_
  refine ev_iadd (ea_at dt_L_law__19 48 rfl) ?_
  refine ev_script (ea_at dt_L_law__19 49 rfl) ?_
  refine ev_i (fun x415 => ?_)
  refine ev_if_eq (tgt := 2010) (ea_at dt_L_law__19 50 rfl) rfl (fun _ => ?_) (fun _ => ?_)
  · refine ev_iconst (ea_at dt_L_law__19 53 rfl) ic_0 ?_
    refine ev_wid (k' := 400 + Int32.toNatClampNeg x410 + 1) (n' := 30000 + 6 * Int32.toNatClampNeg x410 + 6) (show 400 + Int32.toNatClampNeg x410 + 1 ≤ 400 + Int32.toNatClampNeg x410 + 1 from by omega) (show 30000 + 6 * Int32.toNatClampNeg x410 + 6 ≤ 30000 + 6 * Int32.toNatClampNeg x410 + 6 from by omega) ?_
    exact ev_drop (l' := [some (.ref 2000), some (.ref 0), some (.ref 272), some (.ref 287), some (.int x410), some (.int r414), none]) ⟨Or.inr rfl, Or.inr rfl, Or.inr rfl, Or.inr rfl, Or.inr rfl, Or.inr rfl, Or.inl rfl, trivial⟩ (jn_L_law__2011 G x410 r414 0 m413 hx410 hC hR hX)
  · refine ev_iconst (ea_at dt_L_law__19 51 rfl) ic_1 ?_
    refine ev_goto (tgt := 2011) (ea_at dt_L_law__19 52 rfl) rfl ?_
    refine ev_wid (k' := 400 + Int32.toNatClampNeg x410 + 1) (n' := 30000 + 6 * Int32.toNatClampNeg x410 + 6) (show 400 + Int32.toNatClampNeg x410 + 1 ≤ 400 + Int32.toNatClampNeg x410 + 1 from by omega) (show 30000 + 6 * Int32.toNatClampNeg x410 + 6 ≤ 30000 + 6 * Int32.toNatClampNeg x410 + 6 from by omega) ?_
    exact ev_drop (l' := [some (.ref 2000), some (.ref 0), some (.ref 272), some (.ref 287), some (.int x410), some (.int r414), none]) ⟨Or.inr rfl, Or.inr rfl, Or.inr rfl, Or.inr rfl, Or.inr rfl, Or.inr rfl, Or.inl rfl, trivial⟩ (jn_L_law__2011 G x410 r414 1 m413 hx410 hC hR hX)
set_option maxHeartbeats 300000 in
theorem jn_L_law__1975 (G : ea_G) {res : ea_O}  (x407 : Int32) (m408 : ea_M) (hx407 : Int32.toNatClampNeg x407 ≤ 4000) {Φ : ((Int32 × ea_M) ⊕ ((Int32 × ea_M) ⊕ (ea_M))) → Prop} (hC : ∀ s23 : Int32 × ea_M, Φ (.inl s23) → ea_Ev G F_L_law_ res 23 [some (.ref 2000), some (.ref 0), some (.ref 272), some (.ref 287), some (.int s23.1), none, none] [] s23.2 (400 + Int32.toNatClampNeg s23.1) (30000 + 6 * Int32.toNatClampNeg s23.1)) (hR : ∀ t : Int32 × ea_M, Φ (.inr (.inl t)) → res = (0, t)) (hX : ∀ x23s : ea_M, Φ (.inr (.inr x23s)) → ea_Ev G F_L_law_ res 2851 [none, none, none, none, none, none, none] [] x23s 5000 60000) : ea_E G F_L_law_ res 1975 [some (.ref 2000), some (.ref 0), some (.ref 272), some (.ref 287), some (.int x407), none, none] [] m408 (400 + Int32.toNatClampNeg x407) (30000 + 6 * Int32.toNatClampNeg x407) (f_L_law__j1975 G x407 m408) Φ := by
  unfold f_L_law__j1975
  refine ev_aload_n (ea_at dt_L_law__19 31 rfl) rfl ?_
  refine ev_aload_n (ea_at dt_L_law__19 32 rfl) rfl ?_
  refine ev_iload (ea_at dt_L_law__19 33 rfl) rfl ?_
  refine ev_iconst (ea_at dt_L_law__19 34 rfl) ic_1 ?_
  refine ev_iadd (ea_at dt_L_law__19 35 rfl) ?_
  refine ev_script (ea_at dt_L_law__19 36 rfl) ?_
  refine ev_i (fun x409 => ?_)
  refine ev_if_eq (tgt := 1989) (ea_at dt_L_law__19 37 rfl) rfl (fun _ => ?_) (fun _ => ?_)
  · refine ev_iconst (ea_at dt_L_law__19 40 rfl) ic_0 ?_
    refine ev_wid (k' := 400 + Int32.toNatClampNeg x407) (n' := 30000 + 6 * Int32.toNatClampNeg x407) (show 400 + Int32.toNatClampNeg x407 ≤ 400 + Int32.toNatClampNeg x407 from by omega) (show 30000 + 6 * Int32.toNatClampNeg x407 ≤ 30000 + 6 * Int32.toNatClampNeg x407 from by omega) ?_
    exact ev_drop (l' := [some (.ref 2000), some (.ref 0), some (.ref 272), some (.ref 287), some (.int x407), none, none]) ⟨Or.inr rfl, Or.inr rfl, Or.inr rfl, Or.inr rfl, Or.inr rfl, Or.inl rfl, Or.inl rfl, trivial⟩ (jn_L_law__1990 G x407 0 m408 hx407 hC hR hX)
  · refine ev_iconst (ea_at dt_L_law__19 38 rfl) ic_1 ?_
    refine ev_goto (tgt := 1990) (ea_at dt_L_law__19 39 rfl) rfl ?_
    refine ev_wid (k' := 400 + Int32.toNatClampNeg x407) (n' := 30000 + 6 * Int32.toNatClampNeg x407) (show 400 + Int32.toNatClampNeg x407 ≤ 400 + Int32.toNatClampNeg x407 from by omega) (show 30000 + 6 * Int32.toNatClampNeg x407 ≤ 30000 + 6 * Int32.toNatClampNeg x407 from by omega) ?_
    exact ev_drop (l' := [some (.ref 2000), some (.ref 0), some (.ref 272), some (.ref 287), some (.int x407), none, none]) ⟨Or.inr rfl, Or.inr rfl, Or.inr rfl, Or.inr rfl, Or.inr rfl, Or.inl rfl, Or.inl rfl, trivial⟩ (jn_L_law__1990 G x407 1 m408 hx407 hC hR hX)
set_option maxHeartbeats 300000 in
theorem jn_L_law__2088 (G : ea_G) {res : ea_O}  (x434 : Int32) (m435 : ea_M) (hx434 : Int32.toNatClampNeg x434 ≤ 4000) {Φ : ((Int32 × ea_M) ⊕ ((Int32 × ea_M) ⊕ (ea_M))) → Prop} (hC : ∀ s23 : Int32 × ea_M, Φ (.inl s23) → ea_Ev G F_L_law_ res 23 [some (.ref 2000), some (.ref 0), some (.ref 272), some (.ref 287), some (.int s23.1), none, none] [] s23.2 (400 + Int32.toNatClampNeg s23.1) (30000 + 6 * Int32.toNatClampNeg s23.1)) (hR : ∀ t : Int32 × ea_M, Φ (.inr (.inl t)) → res = (0, t)) (hX : ∀ x23s : ea_M, Φ (.inr (.inr x23s)) → ea_Ev G F_L_law_ res 2851 [none, none, none, none, none, none, none] [] x23s 5000 60000) : ea_E G F_L_law_ res 2088 [some (.ref 2000), some (.ref 0), some (.ref 272), some (.ref 287), some (.int x434), none, none] [] m435 (400 + Int32.toNatClampNeg x434 + 6) (30000 + 6 * Int32.toNatClampNeg x434 + 36) (f_L_law__j2088 G x434 m435) Φ := by
  unfold f_L_law__j2088
  refine ev_goto (tgt := 2845) (ea_at dt_L_law__20 38 rfl) rfl ?_
  refine ev_wid (k' := 400 + Int32.toNatClampNeg x434 + 6) (n' := 30000 + 6 * Int32.toNatClampNeg x434 + 36) (show 400 + Int32.toNatClampNeg x434 + 6 ≤ 400 + Int32.toNatClampNeg x434 + 6 from by omega) (show 30000 + 6 * Int32.toNatClampNeg x434 + 36 ≤ 30000 + 6 * Int32.toNatClampNeg x434 + 36 from by omega) ?_
  exact ev_drop (l' := [some (.ref 2000), some (.ref 0), some (.ref 272), some (.ref 287), some (.int x434), none, none]) ⟨Or.inr rfl, Or.inr rfl, Or.inr rfl, Or.inr rfl, Or.inr rfl, Or.inl rfl, Or.inl rfl, trivial⟩ (jn_L_law__2845 G x434 m435 hx434 hC hR hX)
set_option maxHeartbeats 300000 in
theorem jn_L_law__2047 (G : ea_G) {res : ea_O}  (x426 : Int32) (m427 : ea_M) (hx426 : Int32.toNatClampNeg x426 ≤ 4000) {Φ : ((Int32 × ea_M) ⊕ ((Int32 × ea_M) ⊕ (ea_M))) → Prop} (hC : ∀ s23 : Int32 × ea_M, Φ (.inl s23) → ea_Ev G F_L_law_ res 23 [some (.ref 2000), some (.ref 0), some (.ref 272), some (.ref 287), some (.int s23.1), none, none] [] s23.2 (400 + Int32.toNatClampNeg s23.1) (30000 + 6 * Int32.toNatClampNeg s23.1)) (hR : ∀ t : Int32 × ea_M, Φ (.inr (.inl t)) → res = (0, t)) (hX : ∀ x23s : ea_M, Φ (.inr (.inr x23s)) → ea_Ev G F_L_law_ res 2851 [none, none, none, none, none, none, none] [] x23s 5000 60000) : ea_E G F_L_law_ res 2047 [some (.ref 2000), some (.ref 0), some (.ref 272), some (.ref 287), some (.int x426), none, none] [] m427 (400 + Int32.toNatClampNeg x426) (30000 + 6 * Int32.toNatClampNeg x426) (f_L_law__j2047 G x426 m427) Φ := by
  unfold f_L_law__j2047
  refine ev_aload_n (ea_at dt_L_law__20 14 rfl) rfl ?_
  refine ev_aload_n (ea_at dt_L_law__20 15 rfl) rfl ?_
  refine ev_clI (F1 := F_L_ask) (fun rY mY hY => ea_runSH (As := [.ref 0, .ref 287]) (ea_at dt_L_law__20 16 rfl) ml_L_232 mv_L_ask (ok_L_ask G m427 rY mY hY) rfl rfl (Nat.le_of_ble_eq_true rfl) (ea_okK rfl (show 400 + Int32.toNatClampNeg x426 + 1 ≤ 601024 from by omega) (show 30000 + 6 * Int32.toNatClampNeg x426 + 6 ≤ 7293034 from by omega))) rfl (fun r429 m428 => ?_)
  refine ev_istore (ls' := [some (.ref 2000), some (.ref 0), some (.ref 272), some (.ref 287), some (.int x426), some (.int r429), none]) (ea_at dt_L_law__20 17 rfl) (ea_lt rfl) rfl ?_
  refine ev_aload_n (ea_at dt_L_law__20 18 rfl) rfl ?_
  refine ev_clI (F1 := F_X12_ask) (fun rY mY hY => ea_runV (As := []) (ea_at dt_L_law__20 19 rfl) ml_L_234 mv_X12_ask (ok_X12_ask G m428 rY mY hY) sh_272 rfl rfl rfl (Nat.le_of_ble_eq_true rfl) (ea_okK rfl (show 400 + Int32.toNatClampNeg x426 + 1 + 0 ≤ 601024 from by omega) (show 30000 + 6 * Int32.toNatClampNeg x426 + 6 + 0 ≤ 7293034 from by omega))) rfl (fun r431 m430 => ?_)
  refine ev_istore (ls' := [some (.ref 2000), some (.ref 0), some (.ref 272), some (.ref 287), some (.int x426), some (.int r429), some (.int r431)]) (ea_at dt_L_law__20 20 rfl) (ea_lt rfl) rfl ?_
  refine ev_aload_n (ea_at dt_L_law__20 21 rfl) rfl ?_
  refine ev_clI (F1 := F_X12_thrown) (fun rY mY hY => ea_runV (As := []) (ea_at dt_L_law__20 22 rfl) ml_L_148 mv_X12_thrown (ok_X12_thrown G m430 rY mY hY) sh_272 rfl rfl rfl (Nat.le_of_ble_eq_true rfl) (ea_okK rfl (show 400 + Int32.toNatClampNeg x426 + 1 + 0 + 0 ≤ 601024 from by omega) (show 30000 + 6 * Int32.toNatClampNeg x426 + 6 + 0 + 0 ≤ 7293034 from by omega))) rfl (fun r433 m432 => ?_)
  refine ev_iload (ea_at dt_L_law__20 23 rfl) rfl ?_
  refine ev_icmp_eq (tgt := 2071) (ea_at dt_L_law__20 24 rfl) rfl (fun _ => ?_) (fun _ => ?_)
  · refine ev_iload (ea_at dt_L_law__20 27 rfl) rfl ?_
    refine ev_if_ne (tgt := 2088) (ea_at dt_L_law__20 28 rfl) rfl (fun _ => ?_) (fun _ => ?_)
    · refine ev_aload_n (ea_at dt_L_law__20 29 rfl) rfl ?_
      refine ev_iconst (ea_at dt_L_law__20 30 rfl) ic_0 ?_
      refine ev_laloadC (j := 0) (ea_at dt_L_law__20 31 rfl) sh_287 (by decide) (by decide) (by decide) ?_
      refine ev_iload (ea_at dt_L_law__20 32 rfl) rfl ?_
      refine ev_i2l (ea_at dt_L_law__20 33 rfl) ?_
      refine ev_lcmp (ea_at dt_L_law__20 34 rfl) ?_
      refine ev_if_eq (tgt := 2088) (ea_at dt_L_law__20 35 rfl) rfl (fun _ => ?_) (fun _ => ?_)
      · refine ev_wid (k' := 400 + Int32.toNatClampNeg x426 + 6) (n' := 30000 + 6 * Int32.toNatClampNeg x426 + 36) (show 400 + Int32.toNatClampNeg x426 + 1 + 0 + 0 ≤ 400 + Int32.toNatClampNeg x426 + 6 from by omega) (show 30000 + 6 * Int32.toNatClampNeg x426 + 6 + 0 + 0 ≤ 30000 + 6 * Int32.toNatClampNeg x426 + 36 from by omega) ?_
        exact ev_drop (l' := [some (.ref 2000), some (.ref 0), some (.ref 272), some (.ref 287), some (.int x426), none, none]) ⟨Or.inr rfl, Or.inr rfl, Or.inr rfl, Or.inr rfl, Or.inr rfl, Or.inl rfl, Or.inl rfl, trivial⟩ (jn_L_law__2088 G x426 m432 hx426 hC hR hX)
      · refine ev_iconst (ea_at dt_L_law__20 36 rfl) ic_0 ?_
        exact ev_zret (by decide) (ea_at dt_L_law__20 37 rfl) rfl ⟨show 400 + Int32.toNatClampNeg x426 + 1 + 0 + 0 ≤ 601024 from by omega, show 30000 + 6 * Int32.toNatClampNeg x426 + 6 + 0 + 0 ≤ 7293034 from by omega⟩ (fun h => hR _ h)
    · refine ev_wid (k' := 400 + Int32.toNatClampNeg x426 + 6) (n' := 30000 + 6 * Int32.toNatClampNeg x426 + 36) (show 400 + Int32.toNatClampNeg x426 + 1 + 0 + 0 ≤ 400 + Int32.toNatClampNeg x426 + 6 from by omega) (show 30000 + 6 * Int32.toNatClampNeg x426 + 6 + 0 + 0 ≤ 30000 + 6 * Int32.toNatClampNeg x426 + 36 from by omega) ?_
      exact ev_drop (l' := [some (.ref 2000), some (.ref 0), some (.ref 272), some (.ref 287), some (.int x426), none, none]) ⟨Or.inr rfl, Or.inr rfl, Or.inr rfl, Or.inr rfl, Or.inr rfl, Or.inl rfl, Or.inl rfl, trivial⟩ (jn_L_law__2088 G x426 m432 hx426 hC hR hX)
  · refine ev_iconst (ea_at dt_L_law__20 25 rfl) ic_0 ?_
    exact ev_zret (by decide) (ea_at dt_L_law__20 26 rfl) rfl ⟨show 400 + Int32.toNatClampNeg x426 + 1 + 0 + 0 ≤ 601024 from by omega, show 30000 + 6 * Int32.toNatClampNeg x426 + 6 + 0 + 0 ≤ 7293034 from by omega⟩ (fun h => hR _ h)
set_option maxHeartbeats 300000 in
theorem jn_L_law__2156 (G : ea_G) {res : ea_O}  (x448 : Int32) (m449 : ea_M) (hx448 : Int32.toNatClampNeg x448 ≤ 4000) {Φ : ((Int32 × ea_M) ⊕ ((Int32 × ea_M) ⊕ (ea_M))) → Prop} (hC : ∀ s23 : Int32 × ea_M, Φ (.inl s23) → ea_Ev G F_L_law_ res 23 [some (.ref 2000), some (.ref 0), some (.ref 272), some (.ref 287), some (.int s23.1), none, none] [] s23.2 (400 + Int32.toNatClampNeg s23.1) (30000 + 6 * Int32.toNatClampNeg s23.1)) (hR : ∀ t : Int32 × ea_M, Φ (.inr (.inl t)) → res = (0, t)) (hX : ∀ x23s : ea_M, Φ (.inr (.inr x23s)) → ea_Ev G F_L_law_ res 2851 [none, none, none, none, none, none, none] [] x23s 5000 60000) : ea_E G F_L_law_ res 2156 [some (.ref 2000), some (.ref 0), some (.ref 272), some (.ref 287), some (.int x448), none, none] [] m449 (400 + Int32.toNatClampNeg x448 + 6) (30000 + 6 * Int32.toNatClampNeg x448 + 36) (f_L_law__j2156 G x448 m449) Φ := by
  unfold f_L_law__j2156
  refine ev_goto (tgt := 2845) (ea_at dt_L_law__21 23 rfl) rfl ?_
  refine ev_wid (k' := 400 + Int32.toNatClampNeg x448 + 6) (n' := 30000 + 6 * Int32.toNatClampNeg x448 + 36) (show 400 + Int32.toNatClampNeg x448 + 6 ≤ 400 + Int32.toNatClampNeg x448 + 6 from by omega) (show 30000 + 6 * Int32.toNatClampNeg x448 + 36 ≤ 30000 + 6 * Int32.toNatClampNeg x448 + 36 from by omega) ?_
  exact ev_drop (l' := [some (.ref 2000), some (.ref 0), some (.ref 272), some (.ref 287), some (.int x448), none, none]) ⟨Or.inr rfl, Or.inr rfl, Or.inr rfl, Or.inr rfl, Or.inr rfl, Or.inl rfl, Or.inl rfl, trivial⟩ (jn_L_law__2845 G x448 m449 hx448 hC hR hX)
set_option maxHeartbeats 300000 in
theorem jn_L_law__2091 (G : ea_G) {res : ea_O}  (x436 : Int32) (m437 : ea_M) (hx436 : Int32.toNatClampNeg x436 ≤ 4000) {Φ : ((Int32 × ea_M) ⊕ ((Int32 × ea_M) ⊕ (ea_M))) → Prop} (hC : ∀ s23 : Int32 × ea_M, Φ (.inl s23) → ea_Ev G F_L_law_ res 23 [some (.ref 2000), some (.ref 0), some (.ref 272), some (.ref 287), some (.int s23.1), none, none] [] s23.2 (400 + Int32.toNatClampNeg s23.1) (30000 + 6 * Int32.toNatClampNeg s23.1)) (hR : ∀ t : Int32 × ea_M, Φ (.inr (.inl t)) → res = (0, t)) (hX : ∀ x23s : ea_M, Φ (.inr (.inr x23s)) → ea_Ev G F_L_law_ res 2851 [none, none, none, none, none, none, none] [] x23s 5000 60000) : ea_E G F_L_law_ res 2091 [some (.ref 2000), some (.ref 0), some (.ref 272), some (.ref 287), some (.int x436), none, none] [] m437 (400 + Int32.toNatClampNeg x436) (30000 + 6 * Int32.toNatClampNeg x436) (f_L_law__j2091 G x436 m437) Φ := by
  unfold f_L_law__j2091
  refine ev_aload_n (ea_at dt_L_law__20 39 rfl) rfl ?_
  refine ev_aload_n (ea_at dt_L_law__20 40 rfl) rfl ?_
  refine ev_iload (ea_at dt_L_law__20 41 rfl) rfl ?_
  refine ev_iconst (ea_at dt_L_law__20 42 rfl) ic_1 ?_
  refine ev_iadd (ea_at dt_L_law__20 43 rfl) ?_
  refine ev_script (ea_at dt_L_law__20 44 rfl) ?_
  refine ev_i (fun x438 => ?_)
  refine ev_aload_n (ea_at dt_L_law__20 45 rfl) rfl ?_
  refine ev_iload (ea_at dt_L_law__20 46 rfl) rfl ?_
  refine ev_iconst (ea_at dt_L_law__20 47 rfl) ic_2 ?_
  refine ev_iadd (ea_at dt_L_law__20 48 rfl) ?_
  refine ev_script (ea_at dt_L_law__20 49 rfl) ?_
  refine ev_i (fun x439 => ?_)
  refine ev_aload_n (ea_at dt_L_law__20 50 rfl) rfl ?_
  refine ev_clI (F1 := F_L_tell) (fun rY mY hY => ea_runSH (As := [.ref 0, .int x438, .int x439, .ref 287]) (ea_at dt_L_law__20 51 rfl) ml_L_235 mv_L_tell (ok_L_tell G x438 x439 m437 rY mY hY) rfl rfl (Nat.le_of_ble_eq_true rfl) (ea_okK rfl (show 400 + Int32.toNatClampNeg x436 + 2 ≤ 601024 from by omega) (show 30000 + 6 * Int32.toNatClampNeg x436 + 12 ≤ 7293034 from by omega))) rfl (fun r441 m440 => ?_)
  refine ev_istore (ls' := [some (.ref 2000), some (.ref 0), some (.ref 272), some (.ref 287), some (.int x436), some (.int r441), none]) (ea_at dt_L_law__20 52 rfl) (ea_lt rfl) rfl ?_
  refine ev_aload_n (ea_at dt_L_law__20 53 rfl) rfl ?_
  refine ev_aload_n (ea_at dt_L_law__20 54 rfl) rfl ?_
  refine ev_iload (ea_at dt_L_law__20 55 rfl) rfl ?_
  refine ev_iconst (ea_at dt_L_law__20 56 rfl) ic_1 ?_
  refine ev_iadd (ea_at dt_L_law__20 57 rfl) ?_
  refine ev_script (ea_at dt_L_law__20 58 rfl) ?_
  refine ev_i (fun x442 => ?_)
  refine ev_aload_n (ea_at dt_L_law__20 59 rfl) rfl ?_
  refine ev_iload (ea_at dt_L_law__21 0 rfl) rfl ?_
  refine ev_iconst (ea_at dt_L_law__21 1 rfl) ic_2 ?_
  refine ev_iadd (ea_at dt_L_law__21 2 rfl) ?_
  refine ev_script (ea_at dt_L_law__21 3 rfl) ?_
  refine ev_i (fun x443 => ?_)
  refine ev_clI (F1 := F_X12_tell) (fun rY mY hY => ea_runV (As := [.int x442, .int x443]) (ea_at dt_L_law__21 4 rfl) ml_L_237 mv_X12_tell (ok_X12_tell G x442 x443 m440 rY mY hY) sh_272 rfl rfl rfl (Nat.le_of_ble_eq_true rfl) (ea_okK rfl (show 400 + Int32.toNatClampNeg x436 + 2 + 0 ≤ 601024 from by omega) (show 30000 + 6 * Int32.toNatClampNeg x436 + 12 + 0 ≤ 7293034 from by omega))) rfl (fun r445 m444 => ?_)
  refine ev_istore (ls' := [some (.ref 2000), some (.ref 0), some (.ref 272), some (.ref 287), some (.int x436), some (.int r441), some (.int r445)]) (ea_at dt_L_law__21 5 rfl) (ea_lt rfl) rfl ?_
  refine ev_aload_n (ea_at dt_L_law__21 6 rfl) rfl ?_
  refine ev_clI (F1 := F_X12_thrown) (fun rY mY hY => ea_runV (As := []) (ea_at dt_L_law__21 7 rfl) ml_L_148 mv_X12_thrown (ok_X12_thrown G m444 rY mY hY) sh_272 rfl rfl rfl (Nat.le_of_ble_eq_true rfl) (ea_okK rfl (show 400 + Int32.toNatClampNeg x436 + 2 + 0 + 0 ≤ 601024 from by omega) (show 30000 + 6 * Int32.toNatClampNeg x436 + 12 + 0 + 0 ≤ 7293034 from by omega))) rfl (fun r447 m446 => ?_)
  refine ev_iload (ea_at dt_L_law__21 8 rfl) rfl ?_
  refine ev_icmp_eq (tgt := 2139) (ea_at dt_L_law__21 9 rfl) rfl (fun _ => ?_) (fun _ => ?_)
  · refine ev_iload (ea_at dt_L_law__21 12 rfl) rfl ?_
    refine ev_if_ne (tgt := 2156) (ea_at dt_L_law__21 13 rfl) rfl (fun _ => ?_) (fun _ => ?_)
    · refine ev_aload_n (ea_at dt_L_law__21 14 rfl) rfl ?_
      refine ev_iconst (ea_at dt_L_law__21 15 rfl) ic_0 ?_
      refine ev_laloadC (j := 0) (ea_at dt_L_law__21 16 rfl) sh_287 (by decide) (by decide) (by decide) ?_
      refine ev_iload (ea_at dt_L_law__21 17 rfl) rfl ?_
      refine ev_i2l (ea_at dt_L_law__21 18 rfl) ?_
      refine ev_lcmp (ea_at dt_L_law__21 19 rfl) ?_
      refine ev_if_eq (tgt := 2156) (ea_at dt_L_law__21 20 rfl) rfl (fun _ => ?_) (fun _ => ?_)
      · refine ev_wid (k' := 400 + Int32.toNatClampNeg x436 + 6) (n' := 30000 + 6 * Int32.toNatClampNeg x436 + 36) (show 400 + Int32.toNatClampNeg x436 + 2 + 0 + 0 ≤ 400 + Int32.toNatClampNeg x436 + 6 from by omega) (show 30000 + 6 * Int32.toNatClampNeg x436 + 12 + 0 + 0 ≤ 30000 + 6 * Int32.toNatClampNeg x436 + 36 from by omega) ?_
        exact ev_drop (l' := [some (.ref 2000), some (.ref 0), some (.ref 272), some (.ref 287), some (.int x436), none, none]) ⟨Or.inr rfl, Or.inr rfl, Or.inr rfl, Or.inr rfl, Or.inr rfl, Or.inl rfl, Or.inl rfl, trivial⟩ (jn_L_law__2156 G x436 m446 hx436 hC hR hX)
      · refine ev_iconst (ea_at dt_L_law__21 21 rfl) ic_0 ?_
        exact ev_zret (by decide) (ea_at dt_L_law__21 22 rfl) rfl ⟨show 400 + Int32.toNatClampNeg x436 + 2 + 0 + 0 ≤ 601024 from by omega, show 30000 + 6 * Int32.toNatClampNeg x436 + 12 + 0 + 0 ≤ 7293034 from by omega⟩ (fun h => hR _ h)
    · refine ev_wid (k' := 400 + Int32.toNatClampNeg x436 + 6) (n' := 30000 + 6 * Int32.toNatClampNeg x436 + 36) (show 400 + Int32.toNatClampNeg x436 + 2 + 0 + 0 ≤ 400 + Int32.toNatClampNeg x436 + 6 from by omega) (show 30000 + 6 * Int32.toNatClampNeg x436 + 12 + 0 + 0 ≤ 30000 + 6 * Int32.toNatClampNeg x436 + 36 from by omega) ?_
      exact ev_drop (l' := [some (.ref 2000), some (.ref 0), some (.ref 272), some (.ref 287), some (.int x436), none, none]) ⟨Or.inr rfl, Or.inr rfl, Or.inr rfl, Or.inr rfl, Or.inr rfl, Or.inl rfl, Or.inl rfl, trivial⟩ (jn_L_law__2156 G x436 m446 hx436 hC hR hX)
  · refine ev_iconst (ea_at dt_L_law__21 10 rfl) ic_0 ?_
    exact ev_zret (by decide) (ea_at dt_L_law__21 11 rfl) rfl ⟨show 400 + Int32.toNatClampNeg x436 + 2 + 0 + 0 ≤ 601024 from by omega, show 30000 + 6 * Int32.toNatClampNeg x436 + 12 + 0 + 0 ≤ 7293034 from by omega⟩ (fun h => hR _ h)
set_option maxHeartbeats 300000 in
theorem jn_L_law__2159 (G : ea_G) {res : ea_O}  (x450 : Int32) (m451 : ea_M) (hx450 : Int32.toNatClampNeg x450 ≤ 4000) {Φ : ((Int32 × ea_M) ⊕ ((Int32 × ea_M) ⊕ (ea_M))) → Prop} (hC : ∀ s23 : Int32 × ea_M, Φ (.inl s23) → ea_Ev G F_L_law_ res 23 [some (.ref 2000), some (.ref 0), some (.ref 272), some (.ref 287), some (.int s23.1), none, none] [] s23.2 (400 + Int32.toNatClampNeg s23.1) (30000 + 6 * Int32.toNatClampNeg s23.1)) (hR : ∀ t : Int32 × ea_M, Φ (.inr (.inl t)) → res = (0, t)) (hX : ∀ x23s : ea_M, Φ (.inr (.inr x23s)) → ea_Ev G F_L_law_ res 2851 [none, none, none, none, none, none, none] [] x23s 5000 60000) : ea_E G F_L_law_ res 2159 [some (.ref 2000), some (.ref 0), some (.ref 272), some (.ref 287), some (.int x450), none, none] [] m451 (400 + Int32.toNatClampNeg x450) (30000 + 6 * Int32.toNatClampNeg x450) (f_L_law__j2159 G x450 m451) Φ := by
  unfold f_L_law__j2159
  refine ev_aload_n (ea_at dt_L_law__21 24 rfl) rfl ?_
  refine ev_clI (F1 := F_X11_alike) (fun rY mY hY => ea_runV (As := []) (ea_at dt_L_law__21 25 rfl) ml_L_238 mv_X11_alike (ok_X11_alike G m451 rY mY hY) sh_0 rfl rfl rfl (Nat.le_of_ble_eq_true rfl) (ea_okK rfl (show 400 + Int32.toNatClampNeg x450 + 0 ≤ 601024 from by omega) (show 30000 + 6 * Int32.toNatClampNeg x450 + 0 ≤ 7293034 from by omega))) rfl (fun r453 m452 => ?_)
  refine ev_aload_n (ea_at dt_L_law__21 26 rfl) rfl ?_
  refine ev_clI (F1 := F_X12_alike) (fun rY mY hY => ea_runV (As := []) (ea_at dt_L_law__21 27 rfl) ml_L_241 mv_X12_alike (ok_X12_alike G m452 rY mY hY) sh_272 rfl rfl rfl (Nat.le_of_ble_eq_true rfl) (ea_okK rfl (show 400 + Int32.toNatClampNeg x450 + 0 + 0 ≤ 601024 from by omega) (show 30000 + 6 * Int32.toNatClampNeg x450 + 0 + 0 ≤ 7293034 from by omega))) rfl (fun r455 m454 => ?_)
  refine ev_icmp_eq (tgt := 2845) (ea_at dt_L_law__21 28 rfl) rfl (fun _ => ?_) (fun _ => ?_)
  · refine ev_wid (k' := 400 + Int32.toNatClampNeg x450 + 6) (n' := 30000 + 6 * Int32.toNatClampNeg x450 + 36) (show 400 + Int32.toNatClampNeg x450 + 0 + 0 ≤ 400 + Int32.toNatClampNeg x450 + 6 from by omega) (show 30000 + 6 * Int32.toNatClampNeg x450 + 0 + 0 ≤ 30000 + 6 * Int32.toNatClampNeg x450 + 36 from by omega) ?_
    exact ev_drop (l' := [some (.ref 2000), some (.ref 0), some (.ref 272), some (.ref 287), some (.int x450), none, none]) ⟨Or.inr rfl, Or.inr rfl, Or.inr rfl, Or.inr rfl, Or.inr rfl, Or.inl rfl, Or.inl rfl, trivial⟩ (jn_L_law__2845 G x450 m454 hx450 hC hR hX)
  · refine ev_iconst (ea_at dt_L_law__21 29 rfl) ic_0 ?_
    exact ev_zret (by decide) (ea_at dt_L_law__21 30 rfl) rfl ⟨show 400 + Int32.toNatClampNeg x450 + 0 + 0 ≤ 601024 from by omega, show 30000 + 6 * Int32.toNatClampNeg x450 + 0 + 0 ≤ 7293034 from by omega⟩ (fun h => hR _ h)
set_option maxHeartbeats 300000 in
theorem jn_L_law__2249 (G : ea_G) {res : ea_O}  (x470 : Int32) (m471 : ea_M) (hx470 : Int32.toNatClampNeg x470 ≤ 4000) {Φ : ((Int32 × ea_M) ⊕ ((Int32 × ea_M) ⊕ (ea_M))) → Prop} (hC : ∀ s23 : Int32 × ea_M, Φ (.inl s23) → ea_Ev G F_L_law_ res 23 [some (.ref 2000), some (.ref 0), some (.ref 272), some (.ref 287), some (.int s23.1), none, none] [] s23.2 (400 + Int32.toNatClampNeg s23.1) (30000 + 6 * Int32.toNatClampNeg s23.1)) (hR : ∀ t : Int32 × ea_M, Φ (.inr (.inl t)) → res = (0, t)) (hX : ∀ x23s : ea_M, Φ (.inr (.inr x23s)) → ea_Ev G F_L_law_ res 2851 [none, none, none, none, none, none, none] [] x23s 5000 60000) : ea_E G F_L_law_ res 2249 [some (.ref 2000), some (.ref 0), some (.ref 272), some (.ref 287), some (.int x470), none, none] [] m471 (400 + Int32.toNatClampNeg x470 + 6) (30000 + 6 * Int32.toNatClampNeg x470 + 36) (f_L_law__j2249 G x470 m471) Φ := by
  unfold f_L_law__j2249
  refine ev_goto (tgt := 2845) (ea_at dt_L_law__22 25 rfl) rfl ?_
  refine ev_wid (k' := 400 + Int32.toNatClampNeg x470 + 6) (n' := 30000 + 6 * Int32.toNatClampNeg x470 + 36) (show 400 + Int32.toNatClampNeg x470 + 6 ≤ 400 + Int32.toNatClampNeg x470 + 6 from by omega) (show 30000 + 6 * Int32.toNatClampNeg x470 + 36 ≤ 30000 + 6 * Int32.toNatClampNeg x470 + 36 from by omega) ?_
  exact ev_drop (l' := [some (.ref 2000), some (.ref 0), some (.ref 272), some (.ref 287), some (.int x470), none, none]) ⟨Or.inr rfl, Or.inr rfl, Or.inr rfl, Or.inr rfl, Or.inr rfl, Or.inl rfl, Or.inl rfl, trivial⟩ (jn_L_law__2845 G x470 m471 hx470 hC hR hX)
set_option maxHeartbeats 300000 in
theorem jn_L_law__2172 (G : ea_G) {res : ea_O}  (x456 : Int32) (m457 : ea_M) (hx456 : Int32.toNatClampNeg x456 ≤ 4000) {Φ : ((Int32 × ea_M) ⊕ ((Int32 × ea_M) ⊕ (ea_M))) → Prop} (hC : ∀ s23 : Int32 × ea_M, Φ (.inl s23) → ea_Ev G F_L_law_ res 23 [some (.ref 2000), some (.ref 0), some (.ref 272), some (.ref 287), some (.int s23.1), none, none] [] s23.2 (400 + Int32.toNatClampNeg s23.1) (30000 + 6 * Int32.toNatClampNeg s23.1)) (hR : ∀ t : Int32 × ea_M, Φ (.inr (.inl t)) → res = (0, t)) (hX : ∀ x23s : ea_M, Φ (.inr (.inr x23s)) → ea_Ev G F_L_law_ res 2851 [none, none, none, none, none, none, none] [] x23s 5000 60000) : ea_E G F_L_law_ res 2172 [some (.ref 2000), some (.ref 0), some (.ref 272), some (.ref 287), some (.int x456), none, none] [] m457 (400 + Int32.toNatClampNeg x456) (30000 + 6 * Int32.toNatClampNeg x456) (f_L_law__j2172 G x456 m457) Φ := by
  unfold f_L_law__j2172
  refine ev_aload_n (ea_at dt_L_law__21 31 rfl) rfl ?_
  refine ev_aload_n (ea_at dt_L_law__21 32 rfl) rfl ?_
  refine ev_iload (ea_at dt_L_law__21 33 rfl) rfl ?_
  refine ev_iconst (ea_at dt_L_law__21 34 rfl) ic_1 ?_
  refine ev_iadd (ea_at dt_L_law__21 35 rfl) ?_
  refine ev_script (ea_at dt_L_law__21 36 rfl) ?_
  refine ev_i (fun x458 => ?_)
  refine ev_aload_n (ea_at dt_L_law__21 37 rfl) rfl ?_
  refine ev_iload (ea_at dt_L_law__21 38 rfl) rfl ?_
  refine ev_iconst (ea_at dt_L_law__21 39 rfl) ic_2 ?_
  refine ev_iadd (ea_at dt_L_law__21 40 rfl) ?_
  refine ev_script (ea_at dt_L_law__21 41 rfl) ?_
  refine ev_i (fun x459 => ?_)
  refine ev_aload_n (ea_at dt_L_law__21 42 rfl) rfl ?_
  refine ev_iload (ea_at dt_L_law__21 43 rfl) rfl ?_
  refine ev_iconst (ea_at dt_L_law__21 44 rfl) ic_3 ?_
  refine ev_iadd (ea_at dt_L_law__21 45 rfl) ?_
  refine ev_script (ea_at dt_L_law__21 46 rfl) ?_
  refine ev_i (fun x460 => ?_)
  refine ev_aload_n (ea_at dt_L_law__21 47 rfl) rfl ?_
  refine ev_clI (F1 := F_L_lasts) (fun rY mY hY => ea_runSH (As := [.ref 0, .int x458, .int x459, .int x460, .ref 287]) (ea_at dt_L_law__21 48 rfl) ml_L_242 mv_L_lasts (ok_L_lasts G x458 x459 x460 m457 rY mY hY) rfl rfl (Nat.le_of_ble_eq_true rfl) (ea_okK rfl (show 400 + Int32.toNatClampNeg x456 + 3 ≤ 601024 from by omega) (show 30000 + 6 * Int32.toNatClampNeg x456 + 18 ≤ 7293034 from by omega))) rfl (fun r462 m461 => ?_)
  refine ev_istore (ls' := [some (.ref 2000), some (.ref 0), some (.ref 272), some (.ref 287), some (.int x456), some (.int r462), none]) (ea_at dt_L_law__21 49 rfl) (ea_lt rfl) rfl ?_
  refine ev_aload_n (ea_at dt_L_law__21 50 rfl) rfl ?_
  refine ev_aload_n (ea_at dt_L_law__21 51 rfl) rfl ?_
  refine ev_iload (ea_at dt_L_law__21 52 rfl) rfl ?_
  refine ev_iconst (ea_at dt_L_law__21 53 rfl) ic_1 ?_
  refine ev_iadd (ea_at dt_L_law__21 54 rfl) ?_
  refine ev_script (ea_at dt_L_law__21 55 rfl) ?_
  refine ev_i (fun x463 => ?_)
  refine ev_aload_n (ea_at dt_L_law__21 56 rfl) rfl ?_
  refine ev_iload (ea_at dt_L_law__21 57 rfl) rfl ?_
  refine ev_iconst (ea_at dt_L_law__21 58 rfl) ic_2 ?_
  refine ev_iadd (ea_at dt_L_law__21 59 rfl) ?_
  refine ev_script (ea_at dt_L_law__22 0 rfl) ?_
  refine ev_i (fun x464 => ?_)
  refine ev_aload_n (ea_at dt_L_law__22 1 rfl) rfl ?_
  refine ev_iload (ea_at dt_L_law__22 2 rfl) rfl ?_
  refine ev_iconst (ea_at dt_L_law__22 3 rfl) ic_3 ?_
  refine ev_iadd (ea_at dt_L_law__22 4 rfl) ?_
  refine ev_script (ea_at dt_L_law__22 5 rfl) ?_
  refine ev_i (fun x465 => ?_)
  refine ev_clI (F1 := F_X12_lasts) (fun rY mY hY => ea_runV (As := [.int x463, .int x464, .int x465]) (ea_at dt_L_law__22 6 rfl) ml_L_244 mv_X12_lasts (ok_X12_lasts G x463 x464 x465 m461 rY mY hY) sh_272 rfl rfl rfl (Nat.le_of_ble_eq_true rfl) (ea_okK rfl (show 400 + Int32.toNatClampNeg x456 + 3 + 0 ≤ 601024 from by omega) (show 30000 + 6 * Int32.toNatClampNeg x456 + 18 + 0 ≤ 7293034 from by omega))) rfl (fun r467 m466 => ?_)
  refine ev_istore (ls' := [some (.ref 2000), some (.ref 0), some (.ref 272), some (.ref 287), some (.int x456), some (.int r462), some (.int r467)]) (ea_at dt_L_law__22 7 rfl) (ea_lt rfl) rfl ?_
  refine ev_aload_n (ea_at dt_L_law__22 8 rfl) rfl ?_
  refine ev_clI (F1 := F_X12_thrown) (fun rY mY hY => ea_runV (As := []) (ea_at dt_L_law__22 9 rfl) ml_L_148 mv_X12_thrown (ok_X12_thrown G m466 rY mY hY) sh_272 rfl rfl rfl (Nat.le_of_ble_eq_true rfl) (ea_okK rfl (show 400 + Int32.toNatClampNeg x456 + 3 + 0 + 0 ≤ 601024 from by omega) (show 30000 + 6 * Int32.toNatClampNeg x456 + 18 + 0 + 0 ≤ 7293034 from by omega))) rfl (fun r469 m468 => ?_)
  refine ev_iload (ea_at dt_L_law__22 10 rfl) rfl ?_
  refine ev_icmp_eq (tgt := 2232) (ea_at dt_L_law__22 11 rfl) rfl (fun _ => ?_) (fun _ => ?_)
  · refine ev_iload (ea_at dt_L_law__22 14 rfl) rfl ?_
    refine ev_if_ne (tgt := 2249) (ea_at dt_L_law__22 15 rfl) rfl (fun _ => ?_) (fun _ => ?_)
    · refine ev_aload_n (ea_at dt_L_law__22 16 rfl) rfl ?_
      refine ev_iconst (ea_at dt_L_law__22 17 rfl) ic_0 ?_
      refine ev_laloadC (j := 0) (ea_at dt_L_law__22 18 rfl) sh_287 (by decide) (by decide) (by decide) ?_
      refine ev_iload (ea_at dt_L_law__22 19 rfl) rfl ?_
      refine ev_i2l (ea_at dt_L_law__22 20 rfl) ?_
      refine ev_lcmp (ea_at dt_L_law__22 21 rfl) ?_
      refine ev_if_eq (tgt := 2249) (ea_at dt_L_law__22 22 rfl) rfl (fun _ => ?_) (fun _ => ?_)
      · refine ev_wid (k' := 400 + Int32.toNatClampNeg x456 + 6) (n' := 30000 + 6 * Int32.toNatClampNeg x456 + 36) (show 400 + Int32.toNatClampNeg x456 + 3 + 0 + 0 ≤ 400 + Int32.toNatClampNeg x456 + 6 from by omega) (show 30000 + 6 * Int32.toNatClampNeg x456 + 18 + 0 + 0 ≤ 30000 + 6 * Int32.toNatClampNeg x456 + 36 from by omega) ?_
        exact ev_drop (l' := [some (.ref 2000), some (.ref 0), some (.ref 272), some (.ref 287), some (.int x456), none, none]) ⟨Or.inr rfl, Or.inr rfl, Or.inr rfl, Or.inr rfl, Or.inr rfl, Or.inl rfl, Or.inl rfl, trivial⟩ (jn_L_law__2249 G x456 m468 hx456 hC hR hX)
      · refine ev_iconst (ea_at dt_L_law__22 23 rfl) ic_0 ?_
        exact ev_zret (by decide) (ea_at dt_L_law__22 24 rfl) rfl ⟨show 400 + Int32.toNatClampNeg x456 + 3 + 0 + 0 ≤ 601024 from by omega, show 30000 + 6 * Int32.toNatClampNeg x456 + 18 + 0 + 0 ≤ 7293034 from by omega⟩ (fun h => hR _ h)
    · refine ev_wid (k' := 400 + Int32.toNatClampNeg x456 + 6) (n' := 30000 + 6 * Int32.toNatClampNeg x456 + 36) (show 400 + Int32.toNatClampNeg x456 + 3 + 0 + 0 ≤ 400 + Int32.toNatClampNeg x456 + 6 from by omega) (show 30000 + 6 * Int32.toNatClampNeg x456 + 18 + 0 + 0 ≤ 30000 + 6 * Int32.toNatClampNeg x456 + 36 from by omega) ?_
      exact ev_drop (l' := [some (.ref 2000), some (.ref 0), some (.ref 272), some (.ref 287), some (.int x456), none, none]) ⟨Or.inr rfl, Or.inr rfl, Or.inr rfl, Or.inr rfl, Or.inr rfl, Or.inl rfl, Or.inl rfl, trivial⟩ (jn_L_law__2249 G x456 m468 hx456 hC hR hX)
  · refine ev_iconst (ea_at dt_L_law__22 12 rfl) ic_0 ?_
    exact ev_zret (by decide) (ea_at dt_L_law__22 13 rfl) rfl ⟨show 400 + Int32.toNatClampNeg x456 + 3 + 0 + 0 ≤ 601024 from by omega, show 30000 + 6 * Int32.toNatClampNeg x456 + 18 + 0 + 0 ≤ 7293034 from by omega⟩ (fun h => hR _ h)
set_option maxHeartbeats 300000 in
theorem jn_L_law__2252 (G : ea_G) {res : ea_O}  (x472 : Int32) (m473 : ea_M) (hx472 : Int32.toNatClampNeg x472 ≤ 4000) {Φ : ((Int32 × ea_M) ⊕ ((Int32 × ea_M) ⊕ (ea_M))) → Prop} (hC : ∀ s23 : Int32 × ea_M, Φ (.inl s23) → ea_Ev G F_L_law_ res 23 [some (.ref 2000), some (.ref 0), some (.ref 272), some (.ref 287), some (.int s23.1), none, none] [] s23.2 (400 + Int32.toNatClampNeg s23.1) (30000 + 6 * Int32.toNatClampNeg s23.1)) (hR : ∀ t : Int32 × ea_M, Φ (.inr (.inl t)) → res = (0, t)) (hX : ∀ x23s : ea_M, Φ (.inr (.inr x23s)) → ea_Ev G F_L_law_ res 2851 [none, none, none, none, none, none, none] [] x23s 5000 60000) : ea_E G F_L_law_ res 2252 [some (.ref 2000), some (.ref 0), some (.ref 272), some (.ref 287), some (.int x472), none, none] [] m473 (400 + Int32.toNatClampNeg x472) (30000 + 6 * Int32.toNatClampNeg x472) (f_L_law__j2252 G x472 m473) Φ := by
  unfold f_L_law__j2252
  refine ev_aload_n (ea_at dt_L_law__22 26 rfl) rfl ?_
  refine ev_clI (F1 := F_X11_rich) (fun rY mY hY => ea_runV (As := []) (ea_at dt_L_law__22 27 rfl) ml_L_245 mv_X11_rich (ok_X11_rich G m473 rY mY hY) sh_0 rfl rfl rfl (Nat.le_of_ble_eq_true rfl) (ea_okK rfl (show 400 + Int32.toNatClampNeg x472 + 0 ≤ 601024 from by omega) (show 30000 + 6 * Int32.toNatClampNeg x472 + 0 ≤ 7293034 from by omega))) rfl (fun r475 m474 => ?_)
  refine ev_aload_n (ea_at dt_L_law__22 28 rfl) rfl ?_
  refine ev_clI (F1 := F_X12_rich) (fun rY mY hY => ea_runV (As := []) (ea_at dt_L_law__22 29 rfl) ml_L_248 mv_X12_rich (ok_X12_rich G m474 rY mY hY) sh_272 rfl rfl rfl (Nat.le_of_ble_eq_true rfl) (ea_okK rfl (show 400 + Int32.toNatClampNeg x472 + 0 + 0 ≤ 601024 from by omega) (show 30000 + 6 * Int32.toNatClampNeg x472 + 0 + 0 ≤ 7293034 from by omega))) rfl (fun r477 m476 => ?_)
  refine ev_icmp_eq (tgt := 2845) (ea_at dt_L_law__22 30 rfl) rfl (fun _ => ?_) (fun _ => ?_)
  · refine ev_wid (k' := 400 + Int32.toNatClampNeg x472 + 6) (n' := 30000 + 6 * Int32.toNatClampNeg x472 + 36) (show 400 + Int32.toNatClampNeg x472 + 0 + 0 ≤ 400 + Int32.toNatClampNeg x472 + 6 from by omega) (show 30000 + 6 * Int32.toNatClampNeg x472 + 0 + 0 ≤ 30000 + 6 * Int32.toNatClampNeg x472 + 36 from by omega) ?_
    exact ev_drop (l' := [some (.ref 2000), some (.ref 0), some (.ref 272), some (.ref 287), some (.int x472), none, none]) ⟨Or.inr rfl, Or.inr rfl, Or.inr rfl, Or.inr rfl, Or.inr rfl, Or.inl rfl, Or.inl rfl, trivial⟩ (jn_L_law__2845 G x472 m476 hx472 hC hR hX)
  · refine ev_iconst (ea_at dt_L_law__22 31 rfl) ic_0 ?_
    exact ev_zret (by decide) (ea_at dt_L_law__22 32 rfl) rfl ⟨show 400 + Int32.toNatClampNeg x472 + 0 + 0 ≤ 601024 from by omega, show 30000 + 6 * Int32.toNatClampNeg x472 + 0 + 0 ≤ 7293034 from by omega⟩ (fun h => hR _ h)
set_option maxHeartbeats 300000 in
theorem jn_L_law__2346 (G : ea_G) {res : ea_O}  (x499 : Int32) (m500 : ea_M) (hx499 : Int32.toNatClampNeg x499 ≤ 4000) {Φ : ((Int32 × ea_M) ⊕ ((Int32 × ea_M) ⊕ (ea_M))) → Prop} (hC : ∀ s23 : Int32 × ea_M, Φ (.inl s23) → ea_Ev G F_L_law_ res 23 [some (.ref 2000), some (.ref 0), some (.ref 272), some (.ref 287), some (.int s23.1), none, none] [] s23.2 (400 + Int32.toNatClampNeg s23.1) (30000 + 6 * Int32.toNatClampNeg s23.1)) (hR : ∀ t : Int32 × ea_M, Φ (.inr (.inl t)) → res = (0, t)) (hX : ∀ x23s : ea_M, Φ (.inr (.inr x23s)) → ea_Ev G F_L_law_ res 2851 [none, none, none, none, none, none, none] [] x23s 5000 60000) : ea_E G F_L_law_ res 2346 [some (.ref 2000), some (.ref 0), some (.ref 272), some (.ref 287), some (.int x499), none, none] [] m500 (400 + Int32.toNatClampNeg x499 + 6) (30000 + 6 * Int32.toNatClampNeg x499 + 36) (f_L_law__j2346 G x499 m500) Φ := by
  unfold f_L_law__j2346
  refine ev_goto (tgt := 2845) (ea_at dt_L_law__23 25 rfl) rfl ?_
  refine ev_wid (k' := 400 + Int32.toNatClampNeg x499 + 6) (n' := 30000 + 6 * Int32.toNatClampNeg x499 + 36) (show 400 + Int32.toNatClampNeg x499 + 6 ≤ 400 + Int32.toNatClampNeg x499 + 6 from by omega) (show 30000 + 6 * Int32.toNatClampNeg x499 + 36 ≤ 30000 + 6 * Int32.toNatClampNeg x499 + 36 from by omega) ?_
  exact ev_drop (l' := [some (.ref 2000), some (.ref 0), some (.ref 272), some (.ref 287), some (.int x499), none, none]) ⟨Or.inr rfl, Or.inr rfl, Or.inr rfl, Or.inr rfl, Or.inr rfl, Or.inl rfl, Or.inl rfl, trivial⟩ (jn_L_law__2845 G x499 m500 hx499 hC hR hX)
set_option maxHeartbeats 300000 in
theorem jn_L_law__2313 (G : ea_G) {res : ea_O}  (x490 : Int32) (x491 : Int32) (x492 : Int32) (x493 : Int32) (m494 : ea_M) (hx490 : Int32.toNatClampNeg x490 ≤ 4000) {Φ : ((Int32 × ea_M) ⊕ ((Int32 × ea_M) ⊕ (ea_M))) → Prop} (hC : ∀ s23 : Int32 × ea_M, Φ (.inl s23) → ea_Ev G F_L_law_ res 23 [some (.ref 2000), some (.ref 0), some (.ref 272), some (.ref 287), some (.int s23.1), none, none] [] s23.2 (400 + Int32.toNatClampNeg s23.1) (30000 + 6 * Int32.toNatClampNeg s23.1)) (hR : ∀ t : Int32 × ea_M, Φ (.inr (.inl t)) → res = (0, t)) (hX : ∀ x23s : ea_M, Φ (.inr (.inr x23s)) → ea_Ev G F_L_law_ res 2851 [none, none, none, none, none, none, none] [] x23s 5000 60000) : ea_E G F_L_law_ res 2313 [some (.ref 2000), some (.ref 0), some (.ref 272), some (.ref 287), some (.int x490), some (.int x491), none] [.int x493, .int x492, .ref 272] m494 (400 + Int32.toNatClampNeg x490 + 1) (30000 + 6 * Int32.toNatClampNeg x490 + 6) (f_L_law__j2313 G x490 x491 x492 x493 m494) Φ := by
  unfold f_L_law__j2313
  refine ev_clI (F1 := F_X12_won) (fun rY mY hY => ea_runV (As := [.int x492, .int x493]) (ea_at dt_L_law__23 6 rfl) ml_L_251 mv_X12_won (ok_X12_won G x492 x493 m494 rY mY hY) sh_272 rfl rfl rfl (Nat.le_of_ble_eq_true rfl) (ea_okK rfl (show 400 + Int32.toNatClampNeg x490 + 1 + 0 ≤ 601024 from by omega) (show 30000 + 6 * Int32.toNatClampNeg x490 + 6 + 0 ≤ 7293034 from by omega))) rfl (fun r496 m495 => ?_)
  refine ev_istore (ls' := [some (.ref 2000), some (.ref 0), some (.ref 272), some (.ref 287), some (.int x490), some (.int x491), some (.int r496)]) (ea_at dt_L_law__23 7 rfl) (ea_lt rfl) rfl ?_
  refine ev_aload_n (ea_at dt_L_law__23 8 rfl) rfl ?_
  refine ev_clI (F1 := F_X12_thrown) (fun rY mY hY => ea_runV (As := []) (ea_at dt_L_law__23 9 rfl) ml_L_148 mv_X12_thrown (ok_X12_thrown G m495 rY mY hY) sh_272 rfl rfl rfl (Nat.le_of_ble_eq_true rfl) (ea_okK rfl (show 400 + Int32.toNatClampNeg x490 + 1 + 0 + 0 ≤ 601024 from by omega) (show 30000 + 6 * Int32.toNatClampNeg x490 + 6 + 0 + 0 ≤ 7293034 from by omega))) rfl (fun r498 m497 => ?_)
  refine ev_iload (ea_at dt_L_law__23 10 rfl) rfl ?_
  refine ev_icmp_eq (tgt := 2329) (ea_at dt_L_law__23 11 rfl) rfl (fun _ => ?_) (fun _ => ?_)
  · refine ev_iload (ea_at dt_L_law__23 14 rfl) rfl ?_
    refine ev_if_ne (tgt := 2346) (ea_at dt_L_law__23 15 rfl) rfl (fun _ => ?_) (fun _ => ?_)
    · refine ev_aload_n (ea_at dt_L_law__23 16 rfl) rfl ?_
      refine ev_iconst (ea_at dt_L_law__23 17 rfl) ic_0 ?_
      refine ev_laloadC (j := 0) (ea_at dt_L_law__23 18 rfl) sh_287 (by decide) (by decide) (by decide) ?_
      refine ev_iload (ea_at dt_L_law__23 19 rfl) rfl ?_
      refine ev_i2l (ea_at dt_L_law__23 20 rfl) ?_
      refine ev_lcmp (ea_at dt_L_law__23 21 rfl) ?_
      refine ev_if_eq (tgt := 2346) (ea_at dt_L_law__23 22 rfl) rfl (fun _ => ?_) (fun _ => ?_)
      · refine ev_wid (k' := 400 + Int32.toNatClampNeg x490 + 6) (n' := 30000 + 6 * Int32.toNatClampNeg x490 + 36) (show 400 + Int32.toNatClampNeg x490 + 1 + 0 + 0 ≤ 400 + Int32.toNatClampNeg x490 + 6 from by omega) (show 30000 + 6 * Int32.toNatClampNeg x490 + 6 + 0 + 0 ≤ 30000 + 6 * Int32.toNatClampNeg x490 + 36 from by omega) ?_
        exact ev_drop (l' := [some (.ref 2000), some (.ref 0), some (.ref 272), some (.ref 287), some (.int x490), none, none]) ⟨Or.inr rfl, Or.inr rfl, Or.inr rfl, Or.inr rfl, Or.inr rfl, Or.inl rfl, Or.inl rfl, trivial⟩ (jn_L_law__2346 G x490 m497 hx490 hC hR hX)
      · refine ev_iconst (ea_at dt_L_law__23 23 rfl) ic_0 ?_
        exact ev_zret (by decide) (ea_at dt_L_law__23 24 rfl) rfl ⟨show 400 + Int32.toNatClampNeg x490 + 1 + 0 + 0 ≤ 601024 from by omega, show 30000 + 6 * Int32.toNatClampNeg x490 + 6 + 0 + 0 ≤ 7293034 from by omega⟩ (fun h => hR _ h)
    · refine ev_wid (k' := 400 + Int32.toNatClampNeg x490 + 6) (n' := 30000 + 6 * Int32.toNatClampNeg x490 + 36) (show 400 + Int32.toNatClampNeg x490 + 1 + 0 + 0 ≤ 400 + Int32.toNatClampNeg x490 + 6 from by omega) (show 30000 + 6 * Int32.toNatClampNeg x490 + 6 + 0 + 0 ≤ 30000 + 6 * Int32.toNatClampNeg x490 + 36 from by omega) ?_
      exact ev_drop (l' := [some (.ref 2000), some (.ref 0), some (.ref 272), some (.ref 287), some (.int x490), none, none]) ⟨Or.inr rfl, Or.inr rfl, Or.inr rfl, Or.inr rfl, Or.inr rfl, Or.inl rfl, Or.inl rfl, trivial⟩ (jn_L_law__2346 G x490 m497 hx490 hC hR hX)
  · refine ev_iconst (ea_at dt_L_law__23 12 rfl) ic_0 ?_
    exact ev_zret (by decide) (ea_at dt_L_law__23 13 rfl) rfl ⟨show 400 + Int32.toNatClampNeg x490 + 1 + 0 + 0 ≤ 601024 from by omega, show 30000 + 6 * Int32.toNatClampNeg x490 + 6 + 0 + 0 ≤ 7293034 from by omega⟩ (fun h => hR _ h)
set_option maxHeartbeats 300000 in
theorem jn_L_law__2286 (G : ea_G) {res : ea_O}  (x482 : Int32) (x483 : Int32) (x484 : Int32) (m485 : ea_M) (hx482 : Int32.toNatClampNeg x482 ≤ 4000) {Φ : ((Int32 × ea_M) ⊕ ((Int32 × ea_M) ⊕ (ea_M))) → Prop} (hC : ∀ s23 : Int32 × ea_M, Φ (.inl s23) → ea_Ev G F_L_law_ res 23 [some (.ref 2000), some (.ref 0), some (.ref 272), some (.ref 287), some (.int s23.1), none, none] [] s23.2 (400 + Int32.toNatClampNeg s23.1) (30000 + 6 * Int32.toNatClampNeg s23.1)) (hR : ∀ t : Int32 × ea_M, Φ (.inr (.inl t)) → res = (0, t)) (hX : ∀ x23s : ea_M, Φ (.inr (.inr x23s)) → ea_Ev G F_L_law_ res 2851 [none, none, none, none, none, none, none] [] x23s 5000 60000) : ea_E G F_L_law_ res 2286 [some (.ref 2000), some (.ref 0), some (.ref 272), some (.ref 287), some (.int x482), none, none] [.int x484, .int x483, .ref 0] m485 (400 + Int32.toNatClampNeg x482) (30000 + 6 * Int32.toNatClampNeg x482) (f_L_law__j2286 G x482 x483 x484 m485) Φ := by
  unfold f_L_law__j2286
  refine ev_aload_n (ea_at dt_L_law__22 48 rfl) rfl ?_
  refine ev_clI (F1 := F_L_won) (fun rY mY hY => ea_runSH (As := [.ref 0, .int x483, .int x484, .ref 287]) (ea_at dt_L_law__22 49 rfl) ml_L_249 mv_L_won (ok_L_won G x483 x484 m485 rY mY hY) rfl rfl (Nat.le_of_ble_eq_true rfl) (ea_okK rfl (show 400 + Int32.toNatClampNeg x482 + 1 ≤ 601024 from by omega) (show 30000 + 6 * Int32.toNatClampNeg x482 + 6 ≤ 7293034 from by omega))) rfl (fun r487 m486 => ?_)
  refine ev_istore (ls' := [some (.ref 2000), some (.ref 0), some (.ref 272), some (.ref 287), some (.int x482), some (.int r487), none]) (ea_at dt_L_law__22 50 rfl) (ea_lt rfl) rfl ?_
  refine ev_aload_n (ea_at dt_L_law__22 51 rfl) rfl ?_
  refine ev_aload_n (ea_at dt_L_law__22 52 rfl) rfl ?_
  refine ev_iload (ea_at dt_L_law__22 53 rfl) rfl ?_
  refine ev_iconst (ea_at dt_L_law__22 54 rfl) ic_1 ?_
  refine ev_iadd (ea_at dt_L_law__22 55 rfl) ?_
  refine ev_script (ea_at dt_L_law__22 56 rfl) ?_
  refine ev_i (fun x488 => ?_)
  refine ev_aload_n (ea_at dt_L_law__22 57 rfl) rfl ?_
  refine ev_iload (ea_at dt_L_law__22 58 rfl) rfl ?_
  refine ev_iconst (ea_at dt_L_law__22 59 rfl) ic_2 ?_
  refine ev_iadd (ea_at dt_L_law__23 0 rfl) ?_
  refine ev_script (ea_at dt_L_law__23 1 rfl) ?_
  refine ev_i (fun x489 => ?_)
  refine ev_if_eq (tgt := 2312) (ea_at dt_L_law__23 2 rfl) rfl (fun _ => ?_) (fun _ => ?_)
  · refine ev_iconst (ea_at dt_L_law__23 5 rfl) ic_0 ?_
    refine ev_wid (k' := 400 + Int32.toNatClampNeg x482 + 1) (n' := 30000 + 6 * Int32.toNatClampNeg x482 + 6) (show 400 + Int32.toNatClampNeg x482 + 1 ≤ 400 + Int32.toNatClampNeg x482 + 1 from by omega) (show 30000 + 6 * Int32.toNatClampNeg x482 + 6 ≤ 30000 + 6 * Int32.toNatClampNeg x482 + 6 from by omega) ?_
    exact ev_drop (l' := [some (.ref 2000), some (.ref 0), some (.ref 272), some (.ref 287), some (.int x482), some (.int r487), none]) ⟨Or.inr rfl, Or.inr rfl, Or.inr rfl, Or.inr rfl, Or.inr rfl, Or.inr rfl, Or.inl rfl, trivial⟩ (jn_L_law__2313 G x482 r487 x488 0 m486 hx482 hC hR hX)
  · refine ev_iconst (ea_at dt_L_law__23 3 rfl) ic_1 ?_
    refine ev_goto (tgt := 2313) (ea_at dt_L_law__23 4 rfl) rfl ?_
    refine ev_wid (k' := 400 + Int32.toNatClampNeg x482 + 1) (n' := 30000 + 6 * Int32.toNatClampNeg x482 + 6) (show 400 + Int32.toNatClampNeg x482 + 1 ≤ 400 + Int32.toNatClampNeg x482 + 1 from by omega) (show 30000 + 6 * Int32.toNatClampNeg x482 + 6 ≤ 30000 + 6 * Int32.toNatClampNeg x482 + 6 from by omega) ?_
    exact ev_drop (l' := [some (.ref 2000), some (.ref 0), some (.ref 272), some (.ref 287), some (.int x482), some (.int r487), none]) ⟨Or.inr rfl, Or.inr rfl, Or.inr rfl, Or.inr rfl, Or.inr rfl, Or.inr rfl, Or.inl rfl, trivial⟩ (jn_L_law__2313 G x482 r487 x488 1 m486 hx482 hC hR hX)
set_option maxHeartbeats 300000 in
theorem jn_L_law__2265 (G : ea_G) {res : ea_O}  (x478 : Int32) (m479 : ea_M) (hx478 : Int32.toNatClampNeg x478 ≤ 4000) {Φ : ((Int32 × ea_M) ⊕ ((Int32 × ea_M) ⊕ (ea_M))) → Prop} (hC : ∀ s23 : Int32 × ea_M, Φ (.inl s23) → ea_Ev G F_L_law_ res 23 [some (.ref 2000), some (.ref 0), some (.ref 272), some (.ref 287), some (.int s23.1), none, none] [] s23.2 (400 + Int32.toNatClampNeg s23.1) (30000 + 6 * Int32.toNatClampNeg s23.1)) (hR : ∀ t : Int32 × ea_M, Φ (.inr (.inl t)) → res = (0, t)) (hX : ∀ x23s : ea_M, Φ (.inr (.inr x23s)) → ea_Ev G F_L_law_ res 2851 [none, none, none, none, none, none, none] [] x23s 5000 60000) : ea_E G F_L_law_ res 2265 [some (.ref 2000), some (.ref 0), some (.ref 272), some (.ref 287), some (.int x478), none, none] [] m479 (400 + Int32.toNatClampNeg x478) (30000 + 6 * Int32.toNatClampNeg x478) (f_L_law__j2265 G x478 m479) Φ := by
  unfold f_L_law__j2265
  refine ev_aload_n (ea_at dt_L_law__22 33 rfl) rfl ?_
  refine ev_aload_n (ea_at dt_L_law__22 34 rfl) rfl ?_
  refine ev_iload (ea_at dt_L_law__22 35 rfl) rfl ?_
  refine ev_iconst (ea_at dt_L_law__22 36 rfl) ic_1 ?_
  refine ev_iadd (ea_at dt_L_law__22 37 rfl) ?_
  refine ev_script (ea_at dt_L_law__22 38 rfl) ?_
  refine ev_i (fun x480 => ?_)
  refine ev_aload_n (ea_at dt_L_law__22 39 rfl) rfl ?_
  refine ev_iload (ea_at dt_L_law__22 40 rfl) rfl ?_
  refine ev_iconst (ea_at dt_L_law__22 41 rfl) ic_2 ?_
  refine ev_iadd (ea_at dt_L_law__22 42 rfl) ?_
  refine ev_script (ea_at dt_L_law__22 43 rfl) ?_
  refine ev_i (fun x481 => ?_)
  refine ev_if_eq (tgt := 2285) (ea_at dt_L_law__22 44 rfl) rfl (fun _ => ?_) (fun _ => ?_)
  · refine ev_iconst (ea_at dt_L_law__22 47 rfl) ic_0 ?_
    refine ev_wid (k' := 400 + Int32.toNatClampNeg x478) (n' := 30000 + 6 * Int32.toNatClampNeg x478) (show 400 + Int32.toNatClampNeg x478 ≤ 400 + Int32.toNatClampNeg x478 from by omega) (show 30000 + 6 * Int32.toNatClampNeg x478 ≤ 30000 + 6 * Int32.toNatClampNeg x478 from by omega) ?_
    exact ev_drop (l' := [some (.ref 2000), some (.ref 0), some (.ref 272), some (.ref 287), some (.int x478), none, none]) ⟨Or.inr rfl, Or.inr rfl, Or.inr rfl, Or.inr rfl, Or.inr rfl, Or.inl rfl, Or.inl rfl, trivial⟩ (jn_L_law__2286 G x478 x480 0 m479 hx478 hC hR hX)
  · refine ev_iconst (ea_at dt_L_law__22 45 rfl) ic_1 ?_
    refine ev_goto (tgt := 2286) (ea_at dt_L_law__22 46 rfl) rfl ?_
    refine ev_wid (k' := 400 + Int32.toNatClampNeg x478) (n' := 30000 + 6 * Int32.toNatClampNeg x478) (show 400 + Int32.toNatClampNeg x478 ≤ 400 + Int32.toNatClampNeg x478 from by omega) (show 30000 + 6 * Int32.toNatClampNeg x478 ≤ 30000 + 6 * Int32.toNatClampNeg x478 from by omega) ?_
    exact ev_drop (l' := [some (.ref 2000), some (.ref 0), some (.ref 272), some (.ref 287), some (.int x478), none, none]) ⟨Or.inr rfl, Or.inr rfl, Or.inr rfl, Or.inr rfl, Or.inr rfl, Or.inl rfl, Or.inl rfl, trivial⟩ (jn_L_law__2286 G x478 x480 1 m479 hx478 hC hR hX)
set_option maxHeartbeats 300000 in
theorem jn_L_law__2349 (G : ea_G) {res : ea_O}  (x501 : Int32) (m502 : ea_M) (hx501 : Int32.toNatClampNeg x501 ≤ 4000) {Φ : ((Int32 × ea_M) ⊕ ((Int32 × ea_M) ⊕ (ea_M))) → Prop} (hC : ∀ s23 : Int32 × ea_M, Φ (.inl s23) → ea_Ev G F_L_law_ res 23 [some (.ref 2000), some (.ref 0), some (.ref 272), some (.ref 287), some (.int s23.1), none, none] [] s23.2 (400 + Int32.toNatClampNeg s23.1) (30000 + 6 * Int32.toNatClampNeg s23.1)) (hR : ∀ t : Int32 × ea_M, Φ (.inr (.inl t)) → res = (0, t)) (hX : ∀ x23s : ea_M, Φ (.inr (.inr x23s)) → ea_Ev G F_L_law_ res 2851 [none, none, none, none, none, none, none] [] x23s 5000 60000) : ea_E G F_L_law_ res 2349 [some (.ref 2000), some (.ref 0), some (.ref 272), some (.ref 287), some (.int x501), none, none] [] m502 (400 + Int32.toNatClampNeg x501) (30000 + 6 * Int32.toNatClampNeg x501) (f_L_law__j2349 G x501 m502) Φ := by
  unfold f_L_law__j2349
  refine ev_aload_n (ea_at dt_L_law__23 26 rfl) rfl ?_
  refine ev_clI (F1 := F_X11_cover) (fun rY mY hY => ea_runV (As := []) (ea_at dt_L_law__23 27 rfl) ml_L_252 mv_X11_cover (ok_X11_cover G m502 rY mY hY) sh_0 rfl rfl rfl (Nat.le_of_ble_eq_true rfl) (ea_okK rfl (show 400 + Int32.toNatClampNeg x501 + 0 ≤ 601024 from by omega) (show 30000 + 6 * Int32.toNatClampNeg x501 + 0 ≤ 7293034 from by omega))) rfl (fun r504 m503 => ?_)
  refine ev_aload_n (ea_at dt_L_law__23 28 rfl) rfl ?_
  refine ev_clI (F1 := F_X12_cover) (fun rY mY hY => ea_runV (As := []) (ea_at dt_L_law__23 29 rfl) ml_L_255 mv_X12_cover (ok_X12_cover G m503 rY mY hY) sh_272 rfl rfl rfl (Nat.le_of_ble_eq_true rfl) (ea_okK rfl (show 400 + Int32.toNatClampNeg x501 + 0 + 0 ≤ 601024 from by omega) (show 30000 + 6 * Int32.toNatClampNeg x501 + 0 + 0 ≤ 7293034 from by omega))) rfl (fun r506 m505 => ?_)
  refine ev_icmp_eq (tgt := 2845) (ea_at dt_L_law__23 30 rfl) rfl (fun _ => ?_) (fun _ => ?_)
  · refine ev_wid (k' := 400 + Int32.toNatClampNeg x501 + 6) (n' := 30000 + 6 * Int32.toNatClampNeg x501 + 36) (show 400 + Int32.toNatClampNeg x501 + 0 + 0 ≤ 400 + Int32.toNatClampNeg x501 + 6 from by omega) (show 30000 + 6 * Int32.toNatClampNeg x501 + 0 + 0 ≤ 30000 + 6 * Int32.toNatClampNeg x501 + 36 from by omega) ?_
    exact ev_drop (l' := [some (.ref 2000), some (.ref 0), some (.ref 272), some (.ref 287), some (.int x501), none, none]) ⟨Or.inr rfl, Or.inr rfl, Or.inr rfl, Or.inr rfl, Or.inr rfl, Or.inl rfl, Or.inl rfl, trivial⟩ (jn_L_law__2845 G x501 m505 hx501 hC hR hX)
  · refine ev_iconst (ea_at dt_L_law__23 31 rfl) ic_0 ?_
    exact ev_zret (by decide) (ea_at dt_L_law__23 32 rfl) rfl ⟨show 400 + Int32.toNatClampNeg x501 + 0 + 0 ≤ 601024 from by omega, show 30000 + 6 * Int32.toNatClampNeg x501 + 0 + 0 ≤ 7293034 from by omega⟩ (fun h => hR _ h)
set_option maxHeartbeats 300000 in
theorem jn_L_law__2415 (G : ea_G) {res : ea_O}  (x517 : Int32) (m518 : ea_M) (hx517 : Int32.toNatClampNeg x517 ≤ 4000) {Φ : ((Int32 × ea_M) ⊕ ((Int32 × ea_M) ⊕ (ea_M))) → Prop} (hC : ∀ s23 : Int32 × ea_M, Φ (.inl s23) → ea_Ev G F_L_law_ res 23 [some (.ref 2000), some (.ref 0), some (.ref 272), some (.ref 287), some (.int s23.1), none, none] [] s23.2 (400 + Int32.toNatClampNeg s23.1) (30000 + 6 * Int32.toNatClampNeg s23.1)) (hR : ∀ t : Int32 × ea_M, Φ (.inr (.inl t)) → res = (0, t)) (hX : ∀ x23s : ea_M, Φ (.inr (.inr x23s)) → ea_Ev G F_L_law_ res 2851 [none, none, none, none, none, none, none] [] x23s 5000 60000) : ea_E G F_L_law_ res 2415 [some (.ref 2000), some (.ref 0), some (.ref 272), some (.ref 287), some (.int x517), none, none] [] m518 (400 + Int32.toNatClampNeg x517 + 6) (30000 + 6 * Int32.toNatClampNeg x517 + 36) (f_L_law__j2415 G x517 m518) Φ := by
  unfold f_L_law__j2415
  refine ev_goto (tgt := 2845) (ea_at dt_L_law__24 7 rfl) rfl ?_
  refine ev_wid (k' := 400 + Int32.toNatClampNeg x517 + 6) (n' := 30000 + 6 * Int32.toNatClampNeg x517 + 36) (show 400 + Int32.toNatClampNeg x517 + 6 ≤ 400 + Int32.toNatClampNeg x517 + 6 from by omega) (show 30000 + 6 * Int32.toNatClampNeg x517 + 36 ≤ 30000 + 6 * Int32.toNatClampNeg x517 + 36 from by omega) ?_
  exact ev_drop (l' := [some (.ref 2000), some (.ref 0), some (.ref 272), some (.ref 287), some (.int x517), none, none]) ⟨Or.inr rfl, Or.inr rfl, Or.inr rfl, Or.inr rfl, Or.inr rfl, Or.inl rfl, Or.inl rfl, trivial⟩ (jn_L_law__2845 G x517 m518 hx517 hC hR hX)
set_option maxHeartbeats 300000 in
theorem jn_L_law__2362 (G : ea_G) {res : ea_O}  (x507 : Int32) (m508 : ea_M) (hx507 : Int32.toNatClampNeg x507 ≤ 4000) {Φ : ((Int32 × ea_M) ⊕ ((Int32 × ea_M) ⊕ (ea_M))) → Prop} (hC : ∀ s23 : Int32 × ea_M, Φ (.inl s23) → ea_Ev G F_L_law_ res 23 [some (.ref 2000), some (.ref 0), some (.ref 272), some (.ref 287), some (.int s23.1), none, none] [] s23.2 (400 + Int32.toNatClampNeg s23.1) (30000 + 6 * Int32.toNatClampNeg s23.1)) (hR : ∀ t : Int32 × ea_M, Φ (.inr (.inl t)) → res = (0, t)) (hX : ∀ x23s : ea_M, Φ (.inr (.inr x23s)) → ea_Ev G F_L_law_ res 2851 [none, none, none, none, none, none, none] [] x23s 5000 60000) : ea_E G F_L_law_ res 2362 [some (.ref 2000), some (.ref 0), some (.ref 272), some (.ref 287), some (.int x507), none, none] [] m508 (400 + Int32.toNatClampNeg x507) (30000 + 6 * Int32.toNatClampNeg x507) (f_L_law__j2362 G x507 m508) Φ := by
  unfold f_L_law__j2362
  refine ev_aload_n (ea_at dt_L_law__23 33 rfl) rfl ?_
  refine ev_aload_n (ea_at dt_L_law__23 34 rfl) rfl ?_
  refine ev_iload (ea_at dt_L_law__23 35 rfl) rfl ?_
  refine ev_iconst (ea_at dt_L_law__23 36 rfl) ic_1 ?_
  refine ev_iadd (ea_at dt_L_law__23 37 rfl) ?_
  refine ev_script (ea_at dt_L_law__23 38 rfl) ?_
  refine ev_i (fun x509 => ?_)
  refine ev_aload_n (ea_at dt_L_law__23 39 rfl) rfl ?_
  refine ev_clI (F1 := F_L_widest) (fun rY mY hY => ea_runSH (As := [.ref 0, .int x509, .ref 287]) (ea_at dt_L_law__23 40 rfl) ml_L_256 mv_L_widest (ok_L_widest G x509 m508 rY mY hY) rfl rfl (Nat.le_of_ble_eq_true rfl) (ea_okK rfl (show 400 + Int32.toNatClampNeg x507 + 1 ≤ 601024 from by omega) (show 30000 + 6 * Int32.toNatClampNeg x507 + 6 ≤ 7293034 from by omega))) rfl (fun r511 m510 => ?_)
  refine ev_istore (ls' := [some (.ref 2000), some (.ref 0), some (.ref 272), some (.ref 287), some (.int x507), some (.int r511), none]) (ea_at dt_L_law__23 41 rfl) (ea_lt rfl) rfl ?_
  refine ev_aload_n (ea_at dt_L_law__23 42 rfl) rfl ?_
  refine ev_aload_n (ea_at dt_L_law__23 43 rfl) rfl ?_
  refine ev_iload (ea_at dt_L_law__23 44 rfl) rfl ?_
  refine ev_iconst (ea_at dt_L_law__23 45 rfl) ic_1 ?_
  refine ev_iadd (ea_at dt_L_law__23 46 rfl) ?_
  refine ev_script (ea_at dt_L_law__23 47 rfl) ?_
  refine ev_i (fun x512 => ?_)
  refine ev_clI (F1 := F_X12_widest) (fun rY mY hY => ea_runV (As := [.int x512]) (ea_at dt_L_law__23 48 rfl) ml_L_258 mv_X12_widest (ok_X12_widest G x512 m510 rY mY hY) sh_272 rfl rfl rfl (Nat.le_of_ble_eq_true rfl) (ea_okK rfl (show 400 + Int32.toNatClampNeg x507 + 1 + 0 ≤ 601024 from by omega) (show 30000 + 6 * Int32.toNatClampNeg x507 + 6 + 0 ≤ 7293034 from by omega))) rfl (fun r514 m513 => ?_)
  refine ev_istore (ls' := [some (.ref 2000), some (.ref 0), some (.ref 272), some (.ref 287), some (.int x507), some (.int r511), some (.int r514)]) (ea_at dt_L_law__23 49 rfl) (ea_lt rfl) rfl ?_
  refine ev_aload_n (ea_at dt_L_law__23 50 rfl) rfl ?_
  refine ev_clI (F1 := F_X12_thrown) (fun rY mY hY => ea_runV (As := []) (ea_at dt_L_law__23 51 rfl) ml_L_148 mv_X12_thrown (ok_X12_thrown G m513 rY mY hY) sh_272 rfl rfl rfl (Nat.le_of_ble_eq_true rfl) (ea_okK rfl (show 400 + Int32.toNatClampNeg x507 + 1 + 0 + 0 ≤ 601024 from by omega) (show 30000 + 6 * Int32.toNatClampNeg x507 + 6 + 0 + 0 ≤ 7293034 from by omega))) rfl (fun r516 m515 => ?_)
  refine ev_iload (ea_at dt_L_law__23 52 rfl) rfl ?_
  refine ev_icmp_eq (tgt := 2398) (ea_at dt_L_law__23 53 rfl) rfl (fun _ => ?_) (fun _ => ?_)
  · refine ev_iload (ea_at dt_L_law__23 56 rfl) rfl ?_
    refine ev_if_ne (tgt := 2415) (ea_at dt_L_law__23 57 rfl) rfl (fun _ => ?_) (fun _ => ?_)
    · refine ev_aload_n (ea_at dt_L_law__23 58 rfl) rfl ?_
      refine ev_iconst (ea_at dt_L_law__23 59 rfl) ic_0 ?_
      refine ev_laloadC (j := 0) (ea_at dt_L_law__24 0 rfl) sh_287 (by decide) (by decide) (by decide) ?_
      refine ev_iload (ea_at dt_L_law__24 1 rfl) rfl ?_
      refine ev_i2l (ea_at dt_L_law__24 2 rfl) ?_
      refine ev_lcmp (ea_at dt_L_law__24 3 rfl) ?_
      refine ev_if_eq (tgt := 2415) (ea_at dt_L_law__24 4 rfl) rfl (fun _ => ?_) (fun _ => ?_)
      · refine ev_wid (k' := 400 + Int32.toNatClampNeg x507 + 6) (n' := 30000 + 6 * Int32.toNatClampNeg x507 + 36) (show 400 + Int32.toNatClampNeg x507 + 1 + 0 + 0 ≤ 400 + Int32.toNatClampNeg x507 + 6 from by omega) (show 30000 + 6 * Int32.toNatClampNeg x507 + 6 + 0 + 0 ≤ 30000 + 6 * Int32.toNatClampNeg x507 + 36 from by omega) ?_
        exact ev_drop (l' := [some (.ref 2000), some (.ref 0), some (.ref 272), some (.ref 287), some (.int x507), none, none]) ⟨Or.inr rfl, Or.inr rfl, Or.inr rfl, Or.inr rfl, Or.inr rfl, Or.inl rfl, Or.inl rfl, trivial⟩ (jn_L_law__2415 G x507 m515 hx507 hC hR hX)
      · refine ev_iconst (ea_at dt_L_law__24 5 rfl) ic_0 ?_
        exact ev_zret (by decide) (ea_at dt_L_law__24 6 rfl) rfl ⟨show 400 + Int32.toNatClampNeg x507 + 1 + 0 + 0 ≤ 601024 from by omega, show 30000 + 6 * Int32.toNatClampNeg x507 + 6 + 0 + 0 ≤ 7293034 from by omega⟩ (fun h => hR _ h)
    · refine ev_wid (k' := 400 + Int32.toNatClampNeg x507 + 6) (n' := 30000 + 6 * Int32.toNatClampNeg x507 + 36) (show 400 + Int32.toNatClampNeg x507 + 1 + 0 + 0 ≤ 400 + Int32.toNatClampNeg x507 + 6 from by omega) (show 30000 + 6 * Int32.toNatClampNeg x507 + 6 + 0 + 0 ≤ 30000 + 6 * Int32.toNatClampNeg x507 + 36 from by omega) ?_
      exact ev_drop (l' := [some (.ref 2000), some (.ref 0), some (.ref 272), some (.ref 287), some (.int x507), none, none]) ⟨Or.inr rfl, Or.inr rfl, Or.inr rfl, Or.inr rfl, Or.inr rfl, Or.inl rfl, Or.inl rfl, trivial⟩ (jn_L_law__2415 G x507 m515 hx507 hC hR hX)
  · refine ev_iconst (ea_at dt_L_law__23 54 rfl) ic_0 ?_
    exact ev_zret (by decide) (ea_at dt_L_law__23 55 rfl) rfl ⟨show 400 + Int32.toNatClampNeg x507 + 1 + 0 + 0 ≤ 601024 from by omega, show 30000 + 6 * Int32.toNatClampNeg x507 + 6 + 0 + 0 ≤ 7293034 from by omega⟩ (fun h => hR _ h)
set_option maxHeartbeats 300000 in
theorem jn_L_law__2495 (G : ea_G) {res : ea_O}  (x533 : Int32) (m534 : ea_M) (hx533 : Int32.toNatClampNeg x533 ≤ 4000) {Φ : ((Int32 × ea_M) ⊕ ((Int32 × ea_M) ⊕ (ea_M))) → Prop} (hC : ∀ s23 : Int32 × ea_M, Φ (.inl s23) → ea_Ev G F_L_law_ res 23 [some (.ref 2000), some (.ref 0), some (.ref 272), some (.ref 287), some (.int s23.1), none, none] [] s23.2 (400 + Int32.toNatClampNeg s23.1) (30000 + 6 * Int32.toNatClampNeg s23.1)) (hR : ∀ t : Int32 × ea_M, Φ (.inr (.inl t)) → res = (0, t)) (hX : ∀ x23s : ea_M, Φ (.inr (.inr x23s)) → ea_Ev G F_L_law_ res 2851 [none, none, none, none, none, none, none] [] x23s 5000 60000) : ea_E G F_L_law_ res 2495 [some (.ref 2000), some (.ref 0), some (.ref 272), some (.ref 287), some (.int x533), none, none] [] m534 (400 + Int32.toNatClampNeg x533 + 6) (30000 + 6 * Int32.toNatClampNeg x533 + 36) (f_L_law__j2495 G x533 m534) Φ := by
  unfold f_L_law__j2495
  refine ev_goto (tgt := 2845) (ea_at dt_L_law__25 2 rfl) rfl ?_
  refine ev_wid (k' := 400 + Int32.toNatClampNeg x533 + 6) (n' := 30000 + 6 * Int32.toNatClampNeg x533 + 36) (show 400 + Int32.toNatClampNeg x533 + 6 ≤ 400 + Int32.toNatClampNeg x533 + 6 from by omega) (show 30000 + 6 * Int32.toNatClampNeg x533 + 36 ≤ 30000 + 6 * Int32.toNatClampNeg x533 + 36 from by omega) ?_
  exact ev_drop (l' := [some (.ref 2000), some (.ref 0), some (.ref 272), some (.ref 287), some (.int x533), none, none]) ⟨Or.inr rfl, Or.inr rfl, Or.inr rfl, Or.inr rfl, Or.inr rfl, Or.inl rfl, Or.inl rfl, trivial⟩ (jn_L_law__2845 G x533 m534 hx533 hC hR hX)
set_option maxHeartbeats 300000 in
theorem jn_L_law__2418 (G : ea_G) {res : ea_O}  (x519 : Int32) (m520 : ea_M) (hx519 : Int32.toNatClampNeg x519 ≤ 4000) {Φ : ((Int32 × ea_M) ⊕ ((Int32 × ea_M) ⊕ (ea_M))) → Prop} (hC : ∀ s23 : Int32 × ea_M, Φ (.inl s23) → ea_Ev G F_L_law_ res 23 [some (.ref 2000), some (.ref 0), some (.ref 272), some (.ref 287), some (.int s23.1), none, none] [] s23.2 (400 + Int32.toNatClampNeg s23.1) (30000 + 6 * Int32.toNatClampNeg s23.1)) (hR : ∀ t : Int32 × ea_M, Φ (.inr (.inl t)) → res = (0, t)) (hX : ∀ x23s : ea_M, Φ (.inr (.inr x23s)) → ea_Ev G F_L_law_ res 2851 [none, none, none, none, none, none, none] [] x23s 5000 60000) : ea_E G F_L_law_ res 2418 [some (.ref 2000), some (.ref 0), some (.ref 272), some (.ref 287), some (.int x519), none, none] [] m520 (400 + Int32.toNatClampNeg x519) (30000 + 6 * Int32.toNatClampNeg x519) (f_L_law__j2418 G x519 m520) Φ := by
  unfold f_L_law__j2418
  refine ev_aload_n (ea_at dt_L_law__24 8 rfl) rfl ?_
  refine ev_aload_n (ea_at dt_L_law__24 9 rfl) rfl ?_
  refine ev_iload (ea_at dt_L_law__24 10 rfl) rfl ?_
  refine ev_iconst (ea_at dt_L_law__24 11 rfl) ic_1 ?_
  refine ev_iadd (ea_at dt_L_law__24 12 rfl) ?_
  refine ev_script (ea_at dt_L_law__24 13 rfl) ?_
  refine ev_i (fun x521 => ?_)
  refine ev_aload_n (ea_at dt_L_law__24 14 rfl) rfl ?_
  refine ev_iload (ea_at dt_L_law__24 15 rfl) rfl ?_
  refine ev_iconst (ea_at dt_L_law__24 16 rfl) ic_2 ?_
  refine ev_iadd (ea_at dt_L_law__24 17 rfl) ?_
  refine ev_script (ea_at dt_L_law__24 18 rfl) ?_
  refine ev_i (fun x522 => ?_)
  refine ev_aload_n (ea_at dt_L_law__24 19 rfl) rfl ?_
  refine ev_iload (ea_at dt_L_law__24 20 rfl) rfl ?_
  refine ev_iconst (ea_at dt_L_law__24 21 rfl) ic_3 ?_
  refine ev_iadd (ea_at dt_L_law__24 22 rfl) ?_
  refine ev_script (ea_at dt_L_law__24 23 rfl) ?_
  refine ev_i (fun x523 => ?_)
  refine ev_aload_n (ea_at dt_L_law__24 24 rfl) rfl ?_
  refine ev_clI (F1 := F_L_trial) (fun rY mY hY => ea_runSH (As := [.ref 0, .int x521, .int x522, .int x523, .ref 287]) (ea_at dt_L_law__24 25 rfl) ml_L_259 mv_L_trial (ok_L_trial G x521 x522 x523 m520 rY mY hY) rfl rfl (Nat.le_of_ble_eq_true rfl) (ea_okK rfl (show 400 + Int32.toNatClampNeg x519 + 3 ≤ 601024 from by omega) (show 30000 + 6 * Int32.toNatClampNeg x519 + 18 ≤ 7293034 from by omega))) rfl (fun r525 m524 => ?_)
  refine ev_istore (ls' := [some (.ref 2000), some (.ref 0), some (.ref 272), some (.ref 287), some (.int x519), some (.int r525), none]) (ea_at dt_L_law__24 26 rfl) (ea_lt rfl) rfl ?_
  refine ev_aload_n (ea_at dt_L_law__24 27 rfl) rfl ?_
  refine ev_aload_n (ea_at dt_L_law__24 28 rfl) rfl ?_
  refine ev_iload (ea_at dt_L_law__24 29 rfl) rfl ?_
  refine ev_iconst (ea_at dt_L_law__24 30 rfl) ic_1 ?_
  refine ev_iadd (ea_at dt_L_law__24 31 rfl) ?_
  refine ev_script (ea_at dt_L_law__24 32 rfl) ?_
  refine ev_i (fun x526 => ?_)
  refine ev_aload_n (ea_at dt_L_law__24 33 rfl) rfl ?_
  refine ev_iload (ea_at dt_L_law__24 34 rfl) rfl ?_
  refine ev_iconst (ea_at dt_L_law__24 35 rfl) ic_2 ?_
  refine ev_iadd (ea_at dt_L_law__24 36 rfl) ?_
  refine ev_script (ea_at dt_L_law__24 37 rfl) ?_
  refine ev_i (fun x527 => ?_)
  refine ev_aload_n (ea_at dt_L_law__24 38 rfl) rfl ?_
  refine ev_iload (ea_at dt_L_law__24 39 rfl) rfl ?_
  refine ev_iconst (ea_at dt_L_law__24 40 rfl) ic_3 ?_
  refine ev_iadd (ea_at dt_L_law__24 41 rfl) ?_
  refine ev_script (ea_at dt_L_law__24 42 rfl) ?_
  refine ev_i (fun x528 => ?_)
  refine ev_clI (F1 := F_X12_trial) (fun rY mY hY => ea_runV (As := [.int x526, .int x527, .int x528]) (ea_at dt_L_law__24 43 rfl) ml_L_261 mv_X12_trial (ok_X12_trial G x526 x527 x528 m524 rY mY hY) sh_272 rfl rfl rfl (Nat.le_of_ble_eq_true rfl) (ea_okK rfl (show 400 + Int32.toNatClampNeg x519 + 3 + 0 ≤ 601024 from by omega) (show 30000 + 6 * Int32.toNatClampNeg x519 + 18 + 0 ≤ 7293034 from by omega))) rfl (fun r530 m529 => ?_)
  refine ev_istore (ls' := [some (.ref 2000), some (.ref 0), some (.ref 272), some (.ref 287), some (.int x519), some (.int r525), some (.int r530)]) (ea_at dt_L_law__24 44 rfl) (ea_lt rfl) rfl ?_
  refine ev_aload_n (ea_at dt_L_law__24 45 rfl) rfl ?_
  refine ev_clI (F1 := F_X12_thrown) (fun rY mY hY => ea_runV (As := []) (ea_at dt_L_law__24 46 rfl) ml_L_148 mv_X12_thrown (ok_X12_thrown G m529 rY mY hY) sh_272 rfl rfl rfl (Nat.le_of_ble_eq_true rfl) (ea_okK rfl (show 400 + Int32.toNatClampNeg x519 + 3 + 0 + 0 ≤ 601024 from by omega) (show 30000 + 6 * Int32.toNatClampNeg x519 + 18 + 0 + 0 ≤ 7293034 from by omega))) rfl (fun r532 m531 => ?_)
  refine ev_iload (ea_at dt_L_law__24 47 rfl) rfl ?_
  refine ev_icmp_eq (tgt := 2478) (ea_at dt_L_law__24 48 rfl) rfl (fun _ => ?_) (fun _ => ?_)
  · refine ev_iload (ea_at dt_L_law__24 51 rfl) rfl ?_
    refine ev_if_ne (tgt := 2495) (ea_at dt_L_law__24 52 rfl) rfl (fun _ => ?_) (fun _ => ?_)
    · refine ev_aload_n (ea_at dt_L_law__24 53 rfl) rfl ?_
      refine ev_iconst (ea_at dt_L_law__24 54 rfl) ic_0 ?_
      refine ev_laloadC (j := 0) (ea_at dt_L_law__24 55 rfl) sh_287 (by decide) (by decide) (by decide) ?_
      refine ev_iload (ea_at dt_L_law__24 56 rfl) rfl ?_
      refine ev_i2l (ea_at dt_L_law__24 57 rfl) ?_
      refine ev_lcmp (ea_at dt_L_law__24 58 rfl) ?_
      refine ev_if_eq (tgt := 2495) (ea_at dt_L_law__24 59 rfl) rfl (fun _ => ?_) (fun _ => ?_)
      · refine ev_wid (k' := 400 + Int32.toNatClampNeg x519 + 6) (n' := 30000 + 6 * Int32.toNatClampNeg x519 + 36) (show 400 + Int32.toNatClampNeg x519 + 3 + 0 + 0 ≤ 400 + Int32.toNatClampNeg x519 + 6 from by omega) (show 30000 + 6 * Int32.toNatClampNeg x519 + 18 + 0 + 0 ≤ 30000 + 6 * Int32.toNatClampNeg x519 + 36 from by omega) ?_
        exact ev_drop (l' := [some (.ref 2000), some (.ref 0), some (.ref 272), some (.ref 287), some (.int x519), none, none]) ⟨Or.inr rfl, Or.inr rfl, Or.inr rfl, Or.inr rfl, Or.inr rfl, Or.inl rfl, Or.inl rfl, trivial⟩ (jn_L_law__2495 G x519 m531 hx519 hC hR hX)
      · refine ev_iconst (ea_at dt_L_law__25 0 rfl) ic_0 ?_
        exact ev_zret (by decide) (ea_at dt_L_law__25 1 rfl) rfl ⟨show 400 + Int32.toNatClampNeg x519 + 3 + 0 + 0 ≤ 601024 from by omega, show 30000 + 6 * Int32.toNatClampNeg x519 + 18 + 0 + 0 ≤ 7293034 from by omega⟩ (fun h => hR _ h)
    · refine ev_wid (k' := 400 + Int32.toNatClampNeg x519 + 6) (n' := 30000 + 6 * Int32.toNatClampNeg x519 + 36) (show 400 + Int32.toNatClampNeg x519 + 3 + 0 + 0 ≤ 400 + Int32.toNatClampNeg x519 + 6 from by omega) (show 30000 + 6 * Int32.toNatClampNeg x519 + 18 + 0 + 0 ≤ 30000 + 6 * Int32.toNatClampNeg x519 + 36 from by omega) ?_
      exact ev_drop (l' := [some (.ref 2000), some (.ref 0), some (.ref 272), some (.ref 287), some (.int x519), none, none]) ⟨Or.inr rfl, Or.inr rfl, Or.inr rfl, Or.inr rfl, Or.inr rfl, Or.inl rfl, Or.inl rfl, trivial⟩ (jn_L_law__2495 G x519 m531 hx519 hC hR hX)
  · refine ev_iconst (ea_at dt_L_law__24 49 rfl) ic_0 ?_
    exact ev_zret (by decide) (ea_at dt_L_law__24 50 rfl) rfl ⟨show 400 + Int32.toNatClampNeg x519 + 3 + 0 + 0 ≤ 601024 from by omega, show 30000 + 6 * Int32.toNatClampNeg x519 + 18 + 0 + 0 ≤ 7293034 from by omega⟩ (fun h => hR _ h)
set_option maxHeartbeats 300000 in
theorem jn_L_law__2603 (G : ea_G) {res : ea_O}  (x564 : Int32) (m565 : ea_M) (hx564 : Int32.toNatClampNeg x564 ≤ 4000) {Φ : ((Int32 × ea_M) ⊕ ((Int32 × ea_M) ⊕ (ea_M))) → Prop} (hC : ∀ s23 : Int32 × ea_M, Φ (.inl s23) → ea_Ev G F_L_law_ res 23 [some (.ref 2000), some (.ref 0), some (.ref 272), some (.ref 287), some (.int s23.1), none, none] [] s23.2 (400 + Int32.toNatClampNeg s23.1) (30000 + 6 * Int32.toNatClampNeg s23.1)) (hR : ∀ t : Int32 × ea_M, Φ (.inr (.inl t)) → res = (0, t)) (hX : ∀ x23s : ea_M, Φ (.inr (.inr x23s)) → ea_Ev G F_L_law_ res 2851 [none, none, none, none, none, none, none] [] x23s 5000 60000) : ea_E G F_L_law_ res 2603 [some (.ref 2000), some (.ref 0), some (.ref 272), some (.ref 287), some (.int x564), none, none] [] m565 (400 + Int32.toNatClampNeg x564 + 6) (30000 + 6 * Int32.toNatClampNeg x564 + 36) (f_L_law__j2603 G x564 m565) Φ := by
  unfold f_L_law__j2603
  refine ev_goto (tgt := 2845) (ea_at dt_L_law__26 15 rfl) rfl ?_
  refine ev_wid (k' := 400 + Int32.toNatClampNeg x564 + 6) (n' := 30000 + 6 * Int32.toNatClampNeg x564 + 36) (show 400 + Int32.toNatClampNeg x564 + 6 ≤ 400 + Int32.toNatClampNeg x564 + 6 from by omega) (show 30000 + 6 * Int32.toNatClampNeg x564 + 36 ≤ 30000 + 6 * Int32.toNatClampNeg x564 + 36 from by omega) ?_
  exact ev_drop (l' := [some (.ref 2000), some (.ref 0), some (.ref 272), some (.ref 287), some (.int x564), none, none]) ⟨Or.inr rfl, Or.inr rfl, Or.inr rfl, Or.inr rfl, Or.inr rfl, Or.inl rfl, Or.inl rfl, trivial⟩ (jn_L_law__2845 G x564 m565 hx564 hC hR hX)
set_option maxHeartbeats 300000 in
theorem jn_L_law__2570 (G : ea_G) {res : ea_O}  (x553 : Int32) (x554 : Int32) (x555 : Int32) (x556 : Int32) (x557 : Int32) (x558 : Int32) (m559 : ea_M) (hx553 : Int32.toNatClampNeg x553 ≤ 4000) {Φ : ((Int32 × ea_M) ⊕ ((Int32 × ea_M) ⊕ (ea_M))) → Prop} (hC : ∀ s23 : Int32 × ea_M, Φ (.inl s23) → ea_Ev G F_L_law_ res 23 [some (.ref 2000), some (.ref 0), some (.ref 272), some (.ref 287), some (.int s23.1), none, none] [] s23.2 (400 + Int32.toNatClampNeg s23.1) (30000 + 6 * Int32.toNatClampNeg s23.1)) (hR : ∀ t : Int32 × ea_M, Φ (.inr (.inl t)) → res = (0, t)) (hX : ∀ x23s : ea_M, Φ (.inr (.inr x23s)) → ea_Ev G F_L_law_ res 2851 [none, none, none, none, none, none, none] [] x23s 5000 60000) : ea_E G F_L_law_ res 2570 [some (.ref 2000), some (.ref 0), some (.ref 272), some (.ref 287), some (.int x553), some (.int x554), none] [.int x558, .int x557, .int x556, .int x555, .ref 272] m559 (400 + Int32.toNatClampNeg x553 + 3) (30000 + 6 * Int32.toNatClampNeg x553 + 18) (f_L_law__j2570 G x553 x554 x555 x556 x557 x558 m559) Φ := by
  unfold f_L_law__j2570
  refine ev_clI (F1 := F_X12_span) (fun rY mY hY => ea_runV (As := [.int x555, .int x556, .int x557, .int x558]) (ea_at dt_L_law__25 56 rfl) ml_L_265 mv_X12_span (ok_X12_span G x555 x556 x557 x558 m559 rY mY hY) sh_272 rfl rfl rfl (Nat.le_of_ble_eq_true rfl) (ea_okK rfl (show 400 + Int32.toNatClampNeg x553 + 3 + 0 ≤ 601024 from by omega) (show 30000 + 6 * Int32.toNatClampNeg x553 + 18 + 0 ≤ 7293034 from by omega))) rfl (fun r561 m560 => ?_)
  refine ev_istore (ls' := [some (.ref 2000), some (.ref 0), some (.ref 272), some (.ref 287), some (.int x553), some (.int x554), some (.int r561)]) (ea_at dt_L_law__25 57 rfl) (ea_lt rfl) rfl ?_
  refine ev_aload_n (ea_at dt_L_law__25 58 rfl) rfl ?_
  refine ev_clI (F1 := F_X12_thrown) (fun rY mY hY => ea_runV (As := []) (ea_at dt_L_law__25 59 rfl) ml_L_148 mv_X12_thrown (ok_X12_thrown G m560 rY mY hY) sh_272 rfl rfl rfl (Nat.le_of_ble_eq_true rfl) (ea_okK rfl (show 400 + Int32.toNatClampNeg x553 + 3 + 0 + 0 ≤ 601024 from by omega) (show 30000 + 6 * Int32.toNatClampNeg x553 + 18 + 0 + 0 ≤ 7293034 from by omega))) rfl (fun r563 m562 => ?_)
  refine ev_iload (ea_at dt_L_law__26 0 rfl) rfl ?_
  refine ev_icmp_eq (tgt := 2586) (ea_at dt_L_law__26 1 rfl) rfl (fun _ => ?_) (fun _ => ?_)
  · refine ev_iload (ea_at dt_L_law__26 4 rfl) rfl ?_
    refine ev_if_ne (tgt := 2603) (ea_at dt_L_law__26 5 rfl) rfl (fun _ => ?_) (fun _ => ?_)
    · refine ev_aload_n (ea_at dt_L_law__26 6 rfl) rfl ?_
      refine ev_iconst (ea_at dt_L_law__26 7 rfl) ic_0 ?_
      refine ev_laloadC (j := 0) (ea_at dt_L_law__26 8 rfl) sh_287 (by decide) (by decide) (by decide) ?_
      refine ev_iload (ea_at dt_L_law__26 9 rfl) rfl ?_
      refine ev_i2l (ea_at dt_L_law__26 10 rfl) ?_
      refine ev_lcmp (ea_at dt_L_law__26 11 rfl) ?_
      refine ev_if_eq (tgt := 2603) (ea_at dt_L_law__26 12 rfl) rfl (fun _ => ?_) (fun _ => ?_)
      · refine ev_wid (k' := 400 + Int32.toNatClampNeg x553 + 6) (n' := 30000 + 6 * Int32.toNatClampNeg x553 + 36) (show 400 + Int32.toNatClampNeg x553 + 3 + 0 + 0 ≤ 400 + Int32.toNatClampNeg x553 + 6 from by omega) (show 30000 + 6 * Int32.toNatClampNeg x553 + 18 + 0 + 0 ≤ 30000 + 6 * Int32.toNatClampNeg x553 + 36 from by omega) ?_
        exact ev_drop (l' := [some (.ref 2000), some (.ref 0), some (.ref 272), some (.ref 287), some (.int x553), none, none]) ⟨Or.inr rfl, Or.inr rfl, Or.inr rfl, Or.inr rfl, Or.inr rfl, Or.inl rfl, Or.inl rfl, trivial⟩ (jn_L_law__2603 G x553 m562 hx553 hC hR hX)
      · refine ev_iconst (ea_at dt_L_law__26 13 rfl) ic_0 ?_
        exact ev_zret (by decide) (ea_at dt_L_law__26 14 rfl) rfl ⟨show 400 + Int32.toNatClampNeg x553 + 3 + 0 + 0 ≤ 601024 from by omega, show 30000 + 6 * Int32.toNatClampNeg x553 + 18 + 0 + 0 ≤ 7293034 from by omega⟩ (fun h => hR _ h)
    · refine ev_wid (k' := 400 + Int32.toNatClampNeg x553 + 6) (n' := 30000 + 6 * Int32.toNatClampNeg x553 + 36) (show 400 + Int32.toNatClampNeg x553 + 3 + 0 + 0 ≤ 400 + Int32.toNatClampNeg x553 + 6 from by omega) (show 30000 + 6 * Int32.toNatClampNeg x553 + 18 + 0 + 0 ≤ 30000 + 6 * Int32.toNatClampNeg x553 + 36 from by omega) ?_
      exact ev_drop (l' := [some (.ref 2000), some (.ref 0), some (.ref 272), some (.ref 287), some (.int x553), none, none]) ⟨Or.inr rfl, Or.inr rfl, Or.inr rfl, Or.inr rfl, Or.inr rfl, Or.inl rfl, Or.inl rfl, trivial⟩ (jn_L_law__2603 G x553 m562 hx553 hC hR hX)
  · refine ev_iconst (ea_at dt_L_law__26 2 rfl) ic_0 ?_
    exact ev_zret (by decide) (ea_at dt_L_law__26 3 rfl) rfl ⟨show 400 + Int32.toNatClampNeg x553 + 3 + 0 + 0 ≤ 601024 from by omega, show 30000 + 6 * Int32.toNatClampNeg x553 + 18 + 0 + 0 ≤ 7293034 from by omega⟩ (fun h => hR _ h)
set_option maxHeartbeats 300000 in
theorem jn_L_law__2531 (G : ea_G) {res : ea_O}  (x541 : Int32) (x542 : Int32) (x543 : Int32) (x544 : Int32) (x545 : Int32) (m546 : ea_M) (hx541 : Int32.toNatClampNeg x541 ≤ 4000) {Φ : ((Int32 × ea_M) ⊕ ((Int32 × ea_M) ⊕ (ea_M))) → Prop} (hC : ∀ s23 : Int32 × ea_M, Φ (.inl s23) → ea_Ev G F_L_law_ res 23 [some (.ref 2000), some (.ref 0), some (.ref 272), some (.ref 287), some (.int s23.1), none, none] [] s23.2 (400 + Int32.toNatClampNeg s23.1) (30000 + 6 * Int32.toNatClampNeg s23.1)) (hR : ∀ t : Int32 × ea_M, Φ (.inr (.inl t)) → res = (0, t)) (hX : ∀ x23s : ea_M, Φ (.inr (.inr x23s)) → ea_Ev G F_L_law_ res 2851 [none, none, none, none, none, none, none] [] x23s 5000 60000) : ea_E G F_L_law_ res 2531 [some (.ref 2000), some (.ref 0), some (.ref 272), some (.ref 287), some (.int x541), none, none] [.int x545, .int x544, .int x543, .int x542, .ref 0] m546 (400 + Int32.toNatClampNeg x541) (30000 + 6 * Int32.toNatClampNeg x541) (f_L_law__j2531 G x541 x542 x543 x544 x545 m546) Φ := by
  unfold f_L_law__j2531
  refine ev_aload_n (ea_at dt_L_law__25 28 rfl) rfl ?_
  refine ev_clI (F1 := F_L_span) (fun rY mY hY => ea_runSH (As := [.ref 0, .int x542, .int x543, .int x544, .int x545, .ref 287]) (ea_at dt_L_law__25 29 rfl) ml_L_262 mv_L_span (ok_L_span G x542 x543 x544 x545 m546 rY mY hY) rfl rfl (Nat.le_of_ble_eq_true rfl) (ea_okK rfl (show 400 + Int32.toNatClampNeg x541 + 3 ≤ 601024 from by omega) (show 30000 + 6 * Int32.toNatClampNeg x541 + 18 ≤ 7293034 from by omega))) rfl (fun r548 m547 => ?_)
  refine ev_istore (ls' := [some (.ref 2000), some (.ref 0), some (.ref 272), some (.ref 287), some (.int x541), some (.int r548), none]) (ea_at dt_L_law__25 30 rfl) (ea_lt rfl) rfl ?_
  refine ev_aload_n (ea_at dt_L_law__25 31 rfl) rfl ?_
  refine ev_aload_n (ea_at dt_L_law__25 32 rfl) rfl ?_
  refine ev_iload (ea_at dt_L_law__25 33 rfl) rfl ?_
  refine ev_iconst (ea_at dt_L_law__25 34 rfl) ic_1 ?_
  refine ev_iadd (ea_at dt_L_law__25 35 rfl) ?_
  refine ev_script (ea_at dt_L_law__25 36 rfl) ?_
  refine ev_i (fun x549 => ?_)
  refine ev_aload_n (ea_at dt_L_law__25 37 rfl) rfl ?_
  refine ev_iload (ea_at dt_L_law__25 38 rfl) rfl ?_
  refine ev_iconst (ea_at dt_L_law__25 39 rfl) ic_2 ?_
  refine ev_iadd (ea_at dt_L_law__25 40 rfl) ?_
  refine ev_script (ea_at dt_L_law__25 41 rfl) ?_
  refine ev_i (fun x550 => ?_)
  refine ev_aload_n (ea_at dt_L_law__25 42 rfl) rfl ?_
  refine ev_iload (ea_at dt_L_law__25 43 rfl) rfl ?_
  refine ev_iconst (ea_at dt_L_law__25 44 rfl) ic_3 ?_
  refine ev_iadd (ea_at dt_L_law__25 45 rfl) ?_
  refine ev_script (ea_at dt_L_law__25 46 rfl) ?_
  refine ev_i (fun x551 => ?_)
  refine ev_aload_n (ea_at dt_L_law__25 47 rfl) rfl ?_
  refine ev_iload (ea_at dt_L_law__25 48 rfl) rfl ?_
  refine ev_iconst (ea_at dt_L_law__25 49 rfl) ic_4 ?_
  refine ev_iadd (ea_at dt_L_law__25 50 rfl) ?_
  refine ev_script (ea_at dt_L_law__25 51 rfl) ?_
  refine ev_i (fun x552 => ?_)
  refine ev_if_eq (tgt := 2569) (ea_at dt_L_law__25 52 rfl) rfl (fun _ => ?_) (fun _ => ?_)
  · refine ev_iconst (ea_at dt_L_law__25 55 rfl) ic_0 ?_
    refine ev_wid (k' := 400 + Int32.toNatClampNeg x541 + 3) (n' := 30000 + 6 * Int32.toNatClampNeg x541 + 18) (show 400 + Int32.toNatClampNeg x541 + 3 ≤ 400 + Int32.toNatClampNeg x541 + 3 from by omega) (show 30000 + 6 * Int32.toNatClampNeg x541 + 18 ≤ 30000 + 6 * Int32.toNatClampNeg x541 + 18 from by omega) ?_
    exact ev_drop (l' := [some (.ref 2000), some (.ref 0), some (.ref 272), some (.ref 287), some (.int x541), some (.int r548), none]) ⟨Or.inr rfl, Or.inr rfl, Or.inr rfl, Or.inr rfl, Or.inr rfl, Or.inr rfl, Or.inl rfl, trivial⟩ (jn_L_law__2570 G x541 r548 x549 x550 x551 0 m547 hx541 hC hR hX)
  · refine ev_iconst (ea_at dt_L_law__25 53 rfl) ic_1 ?_
    refine ev_goto (tgt := 2570) (ea_at dt_L_law__25 54 rfl) rfl ?_
    refine ev_wid (k' := 400 + Int32.toNatClampNeg x541 + 3) (n' := 30000 + 6 * Int32.toNatClampNeg x541 + 18) (show 400 + Int32.toNatClampNeg x541 + 3 ≤ 400 + Int32.toNatClampNeg x541 + 3 from by omega) (show 30000 + 6 * Int32.toNatClampNeg x541 + 18 ≤ 30000 + 6 * Int32.toNatClampNeg x541 + 18 from by omega) ?_
    exact ev_drop (l' := [some (.ref 2000), some (.ref 0), some (.ref 272), some (.ref 287), some (.int x541), some (.int r548), none]) ⟨Or.inr rfl, Or.inr rfl, Or.inr rfl, Or.inr rfl, Or.inr rfl, Or.inr rfl, Or.inl rfl, trivial⟩ (jn_L_law__2570 G x541 r548 x549 x550 x551 1 m547 hx541 hC hR hX)
set_option maxHeartbeats 300000 in
theorem jn_L_law__2498 (G : ea_G) {res : ea_O}  (x535 : Int32) (m536 : ea_M) (hx535 : Int32.toNatClampNeg x535 ≤ 4000) {Φ : ((Int32 × ea_M) ⊕ ((Int32 × ea_M) ⊕ (ea_M))) → Prop} (hC : ∀ s23 : Int32 × ea_M, Φ (.inl s23) → ea_Ev G F_L_law_ res 23 [some (.ref 2000), some (.ref 0), some (.ref 272), some (.ref 287), some (.int s23.1), none, none] [] s23.2 (400 + Int32.toNatClampNeg s23.1) (30000 + 6 * Int32.toNatClampNeg s23.1)) (hR : ∀ t : Int32 × ea_M, Φ (.inr (.inl t)) → res = (0, t)) (hX : ∀ x23s : ea_M, Φ (.inr (.inr x23s)) → ea_Ev G F_L_law_ res 2851 [none, none, none, none, none, none, none] [] x23s 5000 60000) : ea_E G F_L_law_ res 2498 [some (.ref 2000), some (.ref 0), some (.ref 272), some (.ref 287), some (.int x535), none, none] [] m536 (400 + Int32.toNatClampNeg x535) (30000 + 6 * Int32.toNatClampNeg x535) (f_L_law__j2498 G x535 m536) Φ := by
  unfold f_L_law__j2498
  refine ev_aload_n (ea_at dt_L_law__25 3 rfl) rfl ?_
  refine ev_aload_n (ea_at dt_L_law__25 4 rfl) rfl ?_
  refine ev_iload (ea_at dt_L_law__25 5 rfl) rfl ?_
  refine ev_iconst (ea_at dt_L_law__25 6 rfl) ic_1 ?_
  refine ev_iadd (ea_at dt_L_law__25 7 rfl) ?_
  refine ev_script (ea_at dt_L_law__25 8 rfl) ?_
  refine ev_i (fun x537 => ?_)
  refine ev_aload_n (ea_at dt_L_law__25 9 rfl) rfl ?_
  refine ev_iload (ea_at dt_L_law__25 10 rfl) rfl ?_
  refine ev_iconst (ea_at dt_L_law__25 11 rfl) ic_2 ?_
  refine ev_iadd (ea_at dt_L_law__25 12 rfl) ?_
  refine ev_script (ea_at dt_L_law__25 13 rfl) ?_
  refine ev_i (fun x538 => ?_)
  refine ev_aload_n (ea_at dt_L_law__25 14 rfl) rfl ?_
  refine ev_iload (ea_at dt_L_law__25 15 rfl) rfl ?_
  refine ev_iconst (ea_at dt_L_law__25 16 rfl) ic_3 ?_
  refine ev_iadd (ea_at dt_L_law__25 17 rfl) ?_
  refine ev_script (ea_at dt_L_law__25 18 rfl) ?_
  refine ev_i (fun x539 => ?_)
  refine ev_aload_n (ea_at dt_L_law__25 19 rfl) rfl ?_
  refine ev_iload (ea_at dt_L_law__25 20 rfl) rfl ?_
  refine ev_iconst (ea_at dt_L_law__25 21 rfl) ic_4 ?_
  refine ev_iadd (ea_at dt_L_law__25 22 rfl) ?_
  refine ev_script (ea_at dt_L_law__25 23 rfl) ?_
  refine ev_i (fun x540 => ?_)
  refine ev_if_eq (tgt := 2530) (ea_at dt_L_law__25 24 rfl) rfl (fun _ => ?_) (fun _ => ?_)
  · refine ev_iconst (ea_at dt_L_law__25 27 rfl) ic_0 ?_
    refine ev_wid (k' := 400 + Int32.toNatClampNeg x535) (n' := 30000 + 6 * Int32.toNatClampNeg x535) (show 400 + Int32.toNatClampNeg x535 ≤ 400 + Int32.toNatClampNeg x535 from by omega) (show 30000 + 6 * Int32.toNatClampNeg x535 ≤ 30000 + 6 * Int32.toNatClampNeg x535 from by omega) ?_
    exact ev_drop (l' := [some (.ref 2000), some (.ref 0), some (.ref 272), some (.ref 287), some (.int x535), none, none]) ⟨Or.inr rfl, Or.inr rfl, Or.inr rfl, Or.inr rfl, Or.inr rfl, Or.inl rfl, Or.inl rfl, trivial⟩ (jn_L_law__2531 G x535 x537 x538 x539 0 m536 hx535 hC hR hX)
  · refine ev_iconst (ea_at dt_L_law__25 25 rfl) ic_1 ?_
    refine ev_goto (tgt := 2531) (ea_at dt_L_law__25 26 rfl) rfl ?_
    refine ev_wid (k' := 400 + Int32.toNatClampNeg x535) (n' := 30000 + 6 * Int32.toNatClampNeg x535) (show 400 + Int32.toNatClampNeg x535 ≤ 400 + Int32.toNatClampNeg x535 from by omega) (show 30000 + 6 * Int32.toNatClampNeg x535 ≤ 30000 + 6 * Int32.toNatClampNeg x535 from by omega) ?_
    exact ev_drop (l' := [some (.ref 2000), some (.ref 0), some (.ref 272), some (.ref 287), some (.int x535), none, none]) ⟨Or.inr rfl, Or.inr rfl, Or.inr rfl, Or.inr rfl, Or.inr rfl, Or.inl rfl, Or.inl rfl, trivial⟩ (jn_L_law__2531 G x535 x537 x538 x539 1 m536 hx535 hC hR hX)
set_option maxHeartbeats 300000 in
theorem jn_L_law__2687 (G : ea_G) {res : ea_O}  (x587 : Int32) (m588 : ea_M) (hx587 : Int32.toNatClampNeg x587 ≤ 4000) {Φ : ((Int32 × ea_M) ⊕ ((Int32 × ea_M) ⊕ (ea_M))) → Prop} (hC : ∀ s23 : Int32 × ea_M, Φ (.inl s23) → ea_Ev G F_L_law_ res 23 [some (.ref 2000), some (.ref 0), some (.ref 272), some (.ref 287), some (.int s23.1), none, none] [] s23.2 (400 + Int32.toNatClampNeg s23.1) (30000 + 6 * Int32.toNatClampNeg s23.1)) (hR : ∀ t : Int32 × ea_M, Φ (.inr (.inl t)) → res = (0, t)) (hX : ∀ x23s : ea_M, Φ (.inr (.inr x23s)) → ea_Ev G F_L_law_ res 2851 [none, none, none, none, none, none, none] [] x23s 5000 60000) : ea_E G F_L_law_ res 2687 [some (.ref 2000), some (.ref 0), some (.ref 272), some (.ref 287), some (.int x587), none, none] [] m588 (400 + Int32.toNatClampNeg x587 + 6) (30000 + 6 * Int32.toNatClampNeg x587 + 36) (f_L_law__j2687 G x587 m588) Φ := by
  unfold f_L_law__j2687
  refine ev_goto (tgt := 2845) (ea_at dt_L_law__27 8 rfl) rfl ?_
  refine ev_wid (k' := 400 + Int32.toNatClampNeg x587 + 6) (n' := 30000 + 6 * Int32.toNatClampNeg x587 + 36) (show 400 + Int32.toNatClampNeg x587 + 6 ≤ 400 + Int32.toNatClampNeg x587 + 6 from by omega) (show 30000 + 6 * Int32.toNatClampNeg x587 + 36 ≤ 30000 + 6 * Int32.toNatClampNeg x587 + 36 from by omega) ?_
  exact ev_drop (l' := [some (.ref 2000), some (.ref 0), some (.ref 272), some (.ref 287), some (.int x587), none, none]) ⟨Or.inr rfl, Or.inr rfl, Or.inr rfl, Or.inr rfl, Or.inr rfl, Or.inl rfl, Or.inl rfl, trivial⟩ (jn_L_law__2845 G x587 m588 hx587 hC hR hX)
set_option maxHeartbeats 300000 in
theorem jn_L_law__2654 (G : ea_G) {res : ea_O}  (x578 : Int32) (x579 : Int32) (x580 : Int32) (x581 : Int32) (m582 : ea_M) (hx578 : Int32.toNatClampNeg x578 ≤ 4000) {Φ : ((Int32 × ea_M) ⊕ ((Int32 × ea_M) ⊕ (ea_M))) → Prop} (hC : ∀ s23 : Int32 × ea_M, Φ (.inl s23) → ea_Ev G F_L_law_ res 23 [some (.ref 2000), some (.ref 0), some (.ref 272), some (.ref 287), some (.int s23.1), none, none] [] s23.2 (400 + Int32.toNatClampNeg s23.1) (30000 + 6 * Int32.toNatClampNeg s23.1)) (hR : ∀ t : Int32 × ea_M, Φ (.inr (.inl t)) → res = (0, t)) (hX : ∀ x23s : ea_M, Φ (.inr (.inr x23s)) → ea_Ev G F_L_law_ res 2851 [none, none, none, none, none, none, none] [] x23s 5000 60000) : ea_E G F_L_law_ res 2654 [some (.ref 2000), some (.ref 0), some (.ref 272), some (.ref 287), some (.int x578), some (.int x579), none] [.int x581, .int x580, .ref 272] m582 (400 + Int32.toNatClampNeg x578 + 1) (30000 + 6 * Int32.toNatClampNeg x578 + 6) (f_L_law__j2654 G x578 x579 x580 x581 m582) Φ := by
  unfold f_L_law__j2654
  refine ev_clI (F1 := F_X12_led) (fun rY mY hY => ea_runV (As := [.int x580, .int x581]) (ea_at dt_L_law__26 49 rfl) ml_L_268 mv_X12_led (ok_X12_led G x580 x581 m582 rY mY hY) sh_272 rfl rfl rfl (Nat.le_of_ble_eq_true rfl) (ea_okK rfl (show 400 + Int32.toNatClampNeg x578 + 1 + 0 ≤ 601024 from by omega) (show 30000 + 6 * Int32.toNatClampNeg x578 + 6 + 0 ≤ 7293034 from by omega))) rfl (fun r584 m583 => ?_)
  refine ev_istore (ls' := [some (.ref 2000), some (.ref 0), some (.ref 272), some (.ref 287), some (.int x578), some (.int x579), some (.int r584)]) (ea_at dt_L_law__26 50 rfl) (ea_lt rfl) rfl ?_
  refine ev_aload_n (ea_at dt_L_law__26 51 rfl) rfl ?_
  refine ev_clI (F1 := F_X12_thrown) (fun rY mY hY => ea_runV (As := []) (ea_at dt_L_law__26 52 rfl) ml_L_148 mv_X12_thrown (ok_X12_thrown G m583 rY mY hY) sh_272 rfl rfl rfl (Nat.le_of_ble_eq_true rfl) (ea_okK rfl (show 400 + Int32.toNatClampNeg x578 + 1 + 0 + 0 ≤ 601024 from by omega) (show 30000 + 6 * Int32.toNatClampNeg x578 + 6 + 0 + 0 ≤ 7293034 from by omega))) rfl (fun r586 m585 => ?_)
  refine ev_iload (ea_at dt_L_law__26 53 rfl) rfl ?_
  refine ev_icmp_eq (tgt := 2670) (ea_at dt_L_law__26 54 rfl) rfl (fun _ => ?_) (fun _ => ?_)
  · refine ev_iload (ea_at dt_L_law__26 57 rfl) rfl ?_
    refine ev_if_ne (tgt := 2687) (ea_at dt_L_law__26 58 rfl) rfl (fun _ => ?_) (fun _ => ?_)
    · refine ev_aload_n (ea_at dt_L_law__26 59 rfl) rfl ?_
      refine ev_iconst (ea_at dt_L_law__27 0 rfl) ic_0 ?_
      refine ev_laloadC (j := 0) (ea_at dt_L_law__27 1 rfl) sh_287 (by decide) (by decide) (by decide) ?_
      refine ev_iload (ea_at dt_L_law__27 2 rfl) rfl ?_
      refine ev_i2l (ea_at dt_L_law__27 3 rfl) ?_
      refine ev_lcmp (ea_at dt_L_law__27 4 rfl) ?_
      refine ev_if_eq (tgt := 2687) (ea_at dt_L_law__27 5 rfl) rfl (fun _ => ?_) (fun _ => ?_)
      · refine ev_wid (k' := 400 + Int32.toNatClampNeg x578 + 6) (n' := 30000 + 6 * Int32.toNatClampNeg x578 + 36) (show 400 + Int32.toNatClampNeg x578 + 1 + 0 + 0 ≤ 400 + Int32.toNatClampNeg x578 + 6 from by omega) (show 30000 + 6 * Int32.toNatClampNeg x578 + 6 + 0 + 0 ≤ 30000 + 6 * Int32.toNatClampNeg x578 + 36 from by omega) ?_
        exact ev_drop (l' := [some (.ref 2000), some (.ref 0), some (.ref 272), some (.ref 287), some (.int x578), none, none]) ⟨Or.inr rfl, Or.inr rfl, Or.inr rfl, Or.inr rfl, Or.inr rfl, Or.inl rfl, Or.inl rfl, trivial⟩ (jn_L_law__2687 G x578 m585 hx578 hC hR hX)
      · refine ev_iconst (ea_at dt_L_law__27 6 rfl) ic_0 ?_
        exact ev_zret (by decide) (ea_at dt_L_law__27 7 rfl) rfl ⟨show 400 + Int32.toNatClampNeg x578 + 1 + 0 + 0 ≤ 601024 from by omega, show 30000 + 6 * Int32.toNatClampNeg x578 + 6 + 0 + 0 ≤ 7293034 from by omega⟩ (fun h => hR _ h)
    · refine ev_wid (k' := 400 + Int32.toNatClampNeg x578 + 6) (n' := 30000 + 6 * Int32.toNatClampNeg x578 + 36) (show 400 + Int32.toNatClampNeg x578 + 1 + 0 + 0 ≤ 400 + Int32.toNatClampNeg x578 + 6 from by omega) (show 30000 + 6 * Int32.toNatClampNeg x578 + 6 + 0 + 0 ≤ 30000 + 6 * Int32.toNatClampNeg x578 + 36 from by omega) ?_
      exact ev_drop (l' := [some (.ref 2000), some (.ref 0), some (.ref 272), some (.ref 287), some (.int x578), none, none]) ⟨Or.inr rfl, Or.inr rfl, Or.inr rfl, Or.inr rfl, Or.inr rfl, Or.inl rfl, Or.inl rfl, trivial⟩ (jn_L_law__2687 G x578 m585 hx578 hC hR hX)
  · refine ev_iconst (ea_at dt_L_law__26 55 rfl) ic_0 ?_
    exact ev_zret (by decide) (ea_at dt_L_law__26 56 rfl) rfl ⟨show 400 + Int32.toNatClampNeg x578 + 1 + 0 + 0 ≤ 601024 from by omega, show 30000 + 6 * Int32.toNatClampNeg x578 + 6 + 0 + 0 ≤ 7293034 from by omega⟩ (fun h => hR _ h)
set_option maxHeartbeats 300000 in
theorem jn_L_law__2627 (G : ea_G) {res : ea_O}  (x570 : Int32) (x571 : Int32) (x572 : Int32) (m573 : ea_M) (hx570 : Int32.toNatClampNeg x570 ≤ 4000) {Φ : ((Int32 × ea_M) ⊕ ((Int32 × ea_M) ⊕ (ea_M))) → Prop} (hC : ∀ s23 : Int32 × ea_M, Φ (.inl s23) → ea_Ev G F_L_law_ res 23 [some (.ref 2000), some (.ref 0), some (.ref 272), some (.ref 287), some (.int s23.1), none, none] [] s23.2 (400 + Int32.toNatClampNeg s23.1) (30000 + 6 * Int32.toNatClampNeg s23.1)) (hR : ∀ t : Int32 × ea_M, Φ (.inr (.inl t)) → res = (0, t)) (hX : ∀ x23s : ea_M, Φ (.inr (.inr x23s)) → ea_Ev G F_L_law_ res 2851 [none, none, none, none, none, none, none] [] x23s 5000 60000) : ea_E G F_L_law_ res 2627 [some (.ref 2000), some (.ref 0), some (.ref 272), some (.ref 287), some (.int x570), none, none] [.int x572, .int x571, .ref 0] m573 (400 + Int32.toNatClampNeg x570) (30000 + 6 * Int32.toNatClampNeg x570) (f_L_law__j2627 G x570 x571 x572 m573) Φ := by
  unfold f_L_law__j2627
  refine ev_aload_n (ea_at dt_L_law__26 31 rfl) rfl ?_
  refine ev_clI (F1 := F_L_led) (fun rY mY hY => ea_runSH (As := [.ref 0, .int x571, .int x572, .ref 287]) (ea_at dt_L_law__26 32 rfl) ml_L_266 mv_L_led (ok_L_led G x571 x572 m573 rY mY hY) rfl rfl (Nat.le_of_ble_eq_true rfl) (ea_okK rfl (show 400 + Int32.toNatClampNeg x570 + 1 ≤ 601024 from by omega) (show 30000 + 6 * Int32.toNatClampNeg x570 + 6 ≤ 7293034 from by omega))) rfl (fun r575 m574 => ?_)
  refine ev_istore (ls' := [some (.ref 2000), some (.ref 0), some (.ref 272), some (.ref 287), some (.int x570), some (.int r575), none]) (ea_at dt_L_law__26 33 rfl) (ea_lt rfl) rfl ?_
  refine ev_aload_n (ea_at dt_L_law__26 34 rfl) rfl ?_
  refine ev_aload_n (ea_at dt_L_law__26 35 rfl) rfl ?_
  refine ev_iload (ea_at dt_L_law__26 36 rfl) rfl ?_
  refine ev_iconst (ea_at dt_L_law__26 37 rfl) ic_1 ?_
  refine ev_iadd (ea_at dt_L_law__26 38 rfl) ?_
  refine ev_script (ea_at dt_L_law__26 39 rfl) ?_
  refine ev_i (fun x576 => ?_)
  refine ev_aload_n (ea_at dt_L_law__26 40 rfl) rfl ?_
  refine ev_iload (ea_at dt_L_law__26 41 rfl) rfl ?_
  refine ev_iconst (ea_at dt_L_law__26 42 rfl) ic_2 ?_
  refine ev_iadd (ea_at dt_L_law__26 43 rfl) ?_
  refine ev_script (ea_at dt_L_law__26 44 rfl) ?_
  refine ev_i (fun x577 => ?_)
  refine ev_if_eq (tgt := 2653) (ea_at dt_L_law__26 45 rfl) rfl (fun _ => ?_) (fun _ => ?_)
  · refine ev_iconst (ea_at dt_L_law__26 48 rfl) ic_0 ?_
    refine ev_wid (k' := 400 + Int32.toNatClampNeg x570 + 1) (n' := 30000 + 6 * Int32.toNatClampNeg x570 + 6) (show 400 + Int32.toNatClampNeg x570 + 1 ≤ 400 + Int32.toNatClampNeg x570 + 1 from by omega) (show 30000 + 6 * Int32.toNatClampNeg x570 + 6 ≤ 30000 + 6 * Int32.toNatClampNeg x570 + 6 from by omega) ?_
    exact ev_drop (l' := [some (.ref 2000), some (.ref 0), some (.ref 272), some (.ref 287), some (.int x570), some (.int r575), none]) ⟨Or.inr rfl, Or.inr rfl, Or.inr rfl, Or.inr rfl, Or.inr rfl, Or.inr rfl, Or.inl rfl, trivial⟩ (jn_L_law__2654 G x570 r575 x576 0 m574 hx570 hC hR hX)
  · refine ev_iconst (ea_at dt_L_law__26 46 rfl) ic_1 ?_
    refine ev_goto (tgt := 2654) (ea_at dt_L_law__26 47 rfl) rfl ?_
    refine ev_wid (k' := 400 + Int32.toNatClampNeg x570 + 1) (n' := 30000 + 6 * Int32.toNatClampNeg x570 + 6) (show 400 + Int32.toNatClampNeg x570 + 1 ≤ 400 + Int32.toNatClampNeg x570 + 1 from by omega) (show 30000 + 6 * Int32.toNatClampNeg x570 + 6 ≤ 30000 + 6 * Int32.toNatClampNeg x570 + 6 from by omega) ?_
    exact ev_drop (l' := [some (.ref 2000), some (.ref 0), some (.ref 272), some (.ref 287), some (.int x570), some (.int r575), none]) ⟨Or.inr rfl, Or.inr rfl, Or.inr rfl, Or.inr rfl, Or.inr rfl, Or.inr rfl, Or.inl rfl, trivial⟩ (jn_L_law__2654 G x570 r575 x576 1 m574 hx570 hC hR hX)
set_option maxHeartbeats 300000 in
theorem jn_L_law__2606 (G : ea_G) {res : ea_O}  (x566 : Int32) (m567 : ea_M) (hx566 : Int32.toNatClampNeg x566 ≤ 4000) {Φ : ((Int32 × ea_M) ⊕ ((Int32 × ea_M) ⊕ (ea_M))) → Prop} (hC : ∀ s23 : Int32 × ea_M, Φ (.inl s23) → ea_Ev G F_L_law_ res 23 [some (.ref 2000), some (.ref 0), some (.ref 272), some (.ref 287), some (.int s23.1), none, none] [] s23.2 (400 + Int32.toNatClampNeg s23.1) (30000 + 6 * Int32.toNatClampNeg s23.1)) (hR : ∀ t : Int32 × ea_M, Φ (.inr (.inl t)) → res = (0, t)) (hX : ∀ x23s : ea_M, Φ (.inr (.inr x23s)) → ea_Ev G F_L_law_ res 2851 [none, none, none, none, none, none, none] [] x23s 5000 60000) : ea_E G F_L_law_ res 2606 [some (.ref 2000), some (.ref 0), some (.ref 272), some (.ref 287), some (.int x566), none, none] [] m567 (400 + Int32.toNatClampNeg x566) (30000 + 6 * Int32.toNatClampNeg x566) (f_L_law__j2606 G x566 m567) Φ := by
  unfold f_L_law__j2606
  refine ev_aload_n (ea_at dt_L_law__26 16 rfl) rfl ?_
  refine ev_aload_n (ea_at dt_L_law__26 17 rfl) rfl ?_
  refine ev_iload (ea_at dt_L_law__26 18 rfl) rfl ?_
  refine ev_iconst (ea_at dt_L_law__26 19 rfl) ic_1 ?_
  refine ev_iadd (ea_at dt_L_law__26 20 rfl) ?_
  refine ev_script (ea_at dt_L_law__26 21 rfl) ?_
  refine ev_i (fun x568 => ?_)
  refine ev_aload_n (ea_at dt_L_law__26 22 rfl) rfl ?_
  refine ev_iload (ea_at dt_L_law__26 23 rfl) rfl ?_
  refine ev_iconst (ea_at dt_L_law__26 24 rfl) ic_2 ?_
  refine ev_iadd (ea_at dt_L_law__26 25 rfl) ?_
  refine ev_script (ea_at dt_L_law__26 26 rfl) ?_
  refine ev_i (fun x569 => ?_)
  refine ev_if_eq (tgt := 2626) (ea_at dt_L_law__26 27 rfl) rfl (fun _ => ?_) (fun _ => ?_)
  · refine ev_iconst (ea_at dt_L_law__26 30 rfl) ic_0 ?_
    refine ev_wid (k' := 400 + Int32.toNatClampNeg x566) (n' := 30000 + 6 * Int32.toNatClampNeg x566) (show 400 + Int32.toNatClampNeg x566 ≤ 400 + Int32.toNatClampNeg x566 from by omega) (show 30000 + 6 * Int32.toNatClampNeg x566 ≤ 30000 + 6 * Int32.toNatClampNeg x566 from by omega) ?_
    exact ev_drop (l' := [some (.ref 2000), some (.ref 0), some (.ref 272), some (.ref 287), some (.int x566), none, none]) ⟨Or.inr rfl, Or.inr rfl, Or.inr rfl, Or.inr rfl, Or.inr rfl, Or.inl rfl, Or.inl rfl, trivial⟩ (jn_L_law__2627 G x566 x568 0 m567 hx566 hC hR hX)
  · refine ev_iconst (ea_at dt_L_law__26 28 rfl) ic_1 ?_
    refine ev_goto (tgt := 2627) (ea_at dt_L_law__26 29 rfl) rfl ?_
    refine ev_wid (k' := 400 + Int32.toNatClampNeg x566) (n' := 30000 + 6 * Int32.toNatClampNeg x566) (show 400 + Int32.toNatClampNeg x566 ≤ 400 + Int32.toNatClampNeg x566 from by omega) (show 30000 + 6 * Int32.toNatClampNeg x566 ≤ 30000 + 6 * Int32.toNatClampNeg x566 from by omega) ?_
    exact ev_drop (l' := [some (.ref 2000), some (.ref 0), some (.ref 272), some (.ref 287), some (.int x566), none, none]) ⟨Or.inr rfl, Or.inr rfl, Or.inr rfl, Or.inr rfl, Or.inr rfl, Or.inl rfl, Or.inl rfl, trivial⟩ (jn_L_law__2627 G x566 x568 1 m567 hx566 hC hR hX)
set_option maxHeartbeats 300000 in
theorem jn_L_law__2755 (G : ea_G) {res : ea_O}  (x601 : Int32) (m602 : ea_M) (hx601 : Int32.toNatClampNeg x601 ≤ 4000) {Φ : ((Int32 × ea_M) ⊕ ((Int32 × ea_M) ⊕ (ea_M))) → Prop} (hC : ∀ s23 : Int32 × ea_M, Φ (.inl s23) → ea_Ev G F_L_law_ res 23 [some (.ref 2000), some (.ref 0), some (.ref 272), some (.ref 287), some (.int s23.1), none, none] [] s23.2 (400 + Int32.toNatClampNeg s23.1) (30000 + 6 * Int32.toNatClampNeg s23.1)) (hR : ∀ t : Int32 × ea_M, Φ (.inr (.inl t)) → res = (0, t)) (hX : ∀ x23s : ea_M, Φ (.inr (.inr x23s)) → ea_Ev G F_L_law_ res 2851 [none, none, none, none, none, none, none] [] x23s 5000 60000) : ea_E G F_L_law_ res 2755 [some (.ref 2000), some (.ref 0), some (.ref 272), some (.ref 287), some (.int x601), none, none] [] m602 (400 + Int32.toNatClampNeg x601 + 6) (30000 + 6 * Int32.toNatClampNeg x601 + 36) (f_L_law__j2755 G x601 m602) Φ := by
  unfold f_L_law__j2755
  refine ev_goto (tgt := 2845) (ea_at dt_L_law__27 53 rfl) rfl ?_
  refine ev_wid (k' := 400 + Int32.toNatClampNeg x601 + 6) (n' := 30000 + 6 * Int32.toNatClampNeg x601 + 36) (show 400 + Int32.toNatClampNeg x601 + 6 ≤ 400 + Int32.toNatClampNeg x601 + 6 from by omega) (show 30000 + 6 * Int32.toNatClampNeg x601 + 36 ≤ 30000 + 6 * Int32.toNatClampNeg x601 + 36 from by omega) ?_
  exact ev_drop (l' := [some (.ref 2000), some (.ref 0), some (.ref 272), some (.ref 287), some (.int x601), none, none]) ⟨Or.inr rfl, Or.inr rfl, Or.inr rfl, Or.inr rfl, Or.inr rfl, Or.inl rfl, Or.inl rfl, trivial⟩ (jn_L_law__2845 G x601 m602 hx601 hC hR hX)
set_option maxHeartbeats 300000 in
theorem jn_L_law__2690 (G : ea_G) {res : ea_O}  (x589 : Int32) (m590 : ea_M) (hx589 : Int32.toNatClampNeg x589 ≤ 4000) {Φ : ((Int32 × ea_M) ⊕ ((Int32 × ea_M) ⊕ (ea_M))) → Prop} (hC : ∀ s23 : Int32 × ea_M, Φ (.inl s23) → ea_Ev G F_L_law_ res 23 [some (.ref 2000), some (.ref 0), some (.ref 272), some (.ref 287), some (.int s23.1), none, none] [] s23.2 (400 + Int32.toNatClampNeg s23.1) (30000 + 6 * Int32.toNatClampNeg s23.1)) (hR : ∀ t : Int32 × ea_M, Φ (.inr (.inl t)) → res = (0, t)) (hX : ∀ x23s : ea_M, Φ (.inr (.inr x23s)) → ea_Ev G F_L_law_ res 2851 [none, none, none, none, none, none, none] [] x23s 5000 60000) : ea_E G F_L_law_ res 2690 [some (.ref 2000), some (.ref 0), some (.ref 272), some (.ref 287), some (.int x589), none, none] [] m590 (400 + Int32.toNatClampNeg x589) (30000 + 6 * Int32.toNatClampNeg x589) (f_L_law__j2690 G x589 m590) Φ := by
  unfold f_L_law__j2690
  refine ev_aload_n (ea_at dt_L_law__27 9 rfl) rfl ?_
  refine ev_aload_n (ea_at dt_L_law__27 10 rfl) rfl ?_
  refine ev_iload (ea_at dt_L_law__27 11 rfl) rfl ?_
  refine ev_iconst (ea_at dt_L_law__27 12 rfl) ic_1 ?_
  refine ev_iadd (ea_at dt_L_law__27 13 rfl) ?_
  refine ev_script (ea_at dt_L_law__27 14 rfl) ?_
  refine ev_i (fun x591 => ?_)
  refine ev_aload_n (ea_at dt_L_law__27 15 rfl) rfl ?_
  refine ev_iload (ea_at dt_L_law__27 16 rfl) rfl ?_
  refine ev_iconst (ea_at dt_L_law__27 17 rfl) ic_2 ?_
  refine ev_iadd (ea_at dt_L_law__27 18 rfl) ?_
  refine ev_script (ea_at dt_L_law__27 19 rfl) ?_
  refine ev_i (fun x592 => ?_)
  refine ev_aload_n (ea_at dt_L_law__27 20 rfl) rfl ?_
  refine ev_clI (F1 := F_L_log) (fun rY mY hY => ea_runSH (As := [.ref 0, .int x591, .int x592, .ref 287]) (ea_at dt_L_law__27 21 rfl) ml_L_269 mv_L_log (ok_L_log G x591 x592 m590 rY mY hY) rfl rfl (Nat.le_of_ble_eq_true rfl) (ea_okK rfl (show 400 + Int32.toNatClampNeg x589 + 1 ≤ 601024 from by omega) (show 30000 + 6 * Int32.toNatClampNeg x589 + 6 ≤ 7293034 from by omega))) rfl (fun r594 m593 => ?_)
  refine ev_istore (ls' := [some (.ref 2000), some (.ref 0), some (.ref 272), some (.ref 287), some (.int x589), some (.int r594), none]) (ea_at dt_L_law__27 22 rfl) (ea_lt rfl) rfl ?_
  refine ev_aload_n (ea_at dt_L_law__27 23 rfl) rfl ?_
  refine ev_aload_n (ea_at dt_L_law__27 24 rfl) rfl ?_
  refine ev_iload (ea_at dt_L_law__27 25 rfl) rfl ?_
  refine ev_iconst (ea_at dt_L_law__27 26 rfl) ic_1 ?_
  refine ev_iadd (ea_at dt_L_law__27 27 rfl) ?_
  refine ev_script (ea_at dt_L_law__27 28 rfl) ?_
  refine ev_i (fun x595 => ?_)
  refine ev_aload_n (ea_at dt_L_law__27 29 rfl) rfl ?_
  refine ev_iload (ea_at dt_L_law__27 30 rfl) rfl ?_
  refine ev_iconst (ea_at dt_L_law__27 31 rfl) ic_2 ?_
  refine ev_iadd (ea_at dt_L_law__27 32 rfl) ?_
  refine ev_script (ea_at dt_L_law__27 33 rfl) ?_
  refine ev_i (fun x596 => ?_)
  refine ev_clI (F1 := F_X12_log) (fun rY mY hY => ea_runV (As := [.int x595, .int x596]) (ea_at dt_L_law__27 34 rfl) ml_L_271 mv_X12_log (ok_X12_log G x595 x596 m593 rY mY hY) sh_272 rfl rfl rfl (Nat.le_of_ble_eq_true rfl) (ea_okK rfl (show 400 + Int32.toNatClampNeg x589 + 1 + 0 ≤ 601024 from by omega) (show 30000 + 6 * Int32.toNatClampNeg x589 + 6 + 0 ≤ 7293034 from by omega))) rfl (fun r598 m597 => ?_)
  refine ev_istore (ls' := [some (.ref 2000), some (.ref 0), some (.ref 272), some (.ref 287), some (.int x589), some (.int r594), some (.int r598)]) (ea_at dt_L_law__27 35 rfl) (ea_lt rfl) rfl ?_
  refine ev_aload_n (ea_at dt_L_law__27 36 rfl) rfl ?_
  refine ev_clI (F1 := F_X12_thrown) (fun rY mY hY => ea_runV (As := []) (ea_at dt_L_law__27 37 rfl) ml_L_148 mv_X12_thrown (ok_X12_thrown G m597 rY mY hY) sh_272 rfl rfl rfl (Nat.le_of_ble_eq_true rfl) (ea_okK rfl (show 400 + Int32.toNatClampNeg x589 + 1 + 0 + 0 ≤ 601024 from by omega) (show 30000 + 6 * Int32.toNatClampNeg x589 + 6 + 0 + 0 ≤ 7293034 from by omega))) rfl (fun r600 m599 => ?_)
  refine ev_iload (ea_at dt_L_law__27 38 rfl) rfl ?_
  refine ev_icmp_eq (tgt := 2738) (ea_at dt_L_law__27 39 rfl) rfl (fun _ => ?_) (fun _ => ?_)
  · refine ev_iload (ea_at dt_L_law__27 42 rfl) rfl ?_
    refine ev_if_ne (tgt := 2755) (ea_at dt_L_law__27 43 rfl) rfl (fun _ => ?_) (fun _ => ?_)
    · refine ev_aload_n (ea_at dt_L_law__27 44 rfl) rfl ?_
      refine ev_iconst (ea_at dt_L_law__27 45 rfl) ic_0 ?_
      refine ev_laloadC (j := 0) (ea_at dt_L_law__27 46 rfl) sh_287 (by decide) (by decide) (by decide) ?_
      refine ev_iload (ea_at dt_L_law__27 47 rfl) rfl ?_
      refine ev_i2l (ea_at dt_L_law__27 48 rfl) ?_
      refine ev_lcmp (ea_at dt_L_law__27 49 rfl) ?_
      refine ev_if_eq (tgt := 2755) (ea_at dt_L_law__27 50 rfl) rfl (fun _ => ?_) (fun _ => ?_)
      · refine ev_wid (k' := 400 + Int32.toNatClampNeg x589 + 6) (n' := 30000 + 6 * Int32.toNatClampNeg x589 + 36) (show 400 + Int32.toNatClampNeg x589 + 1 + 0 + 0 ≤ 400 + Int32.toNatClampNeg x589 + 6 from by omega) (show 30000 + 6 * Int32.toNatClampNeg x589 + 6 + 0 + 0 ≤ 30000 + 6 * Int32.toNatClampNeg x589 + 36 from by omega) ?_
        exact ev_drop (l' := [some (.ref 2000), some (.ref 0), some (.ref 272), some (.ref 287), some (.int x589), none, none]) ⟨Or.inr rfl, Or.inr rfl, Or.inr rfl, Or.inr rfl, Or.inr rfl, Or.inl rfl, Or.inl rfl, trivial⟩ (jn_L_law__2755 G x589 m599 hx589 hC hR hX)
      · refine ev_iconst (ea_at dt_L_law__27 51 rfl) ic_0 ?_
        exact ev_zret (by decide) (ea_at dt_L_law__27 52 rfl) rfl ⟨show 400 + Int32.toNatClampNeg x589 + 1 + 0 + 0 ≤ 601024 from by omega, show 30000 + 6 * Int32.toNatClampNeg x589 + 6 + 0 + 0 ≤ 7293034 from by omega⟩ (fun h => hR _ h)
    · refine ev_wid (k' := 400 + Int32.toNatClampNeg x589 + 6) (n' := 30000 + 6 * Int32.toNatClampNeg x589 + 36) (show 400 + Int32.toNatClampNeg x589 + 1 + 0 + 0 ≤ 400 + Int32.toNatClampNeg x589 + 6 from by omega) (show 30000 + 6 * Int32.toNatClampNeg x589 + 6 + 0 + 0 ≤ 30000 + 6 * Int32.toNatClampNeg x589 + 36 from by omega) ?_
      exact ev_drop (l' := [some (.ref 2000), some (.ref 0), some (.ref 272), some (.ref 287), some (.int x589), none, none]) ⟨Or.inr rfl, Or.inr rfl, Or.inr rfl, Or.inr rfl, Or.inr rfl, Or.inl rfl, Or.inl rfl, trivial⟩ (jn_L_law__2755 G x589 m599 hx589 hC hR hX)
  · refine ev_iconst (ea_at dt_L_law__27 40 rfl) ic_0 ?_
    exact ev_zret (by decide) (ea_at dt_L_law__27 41 rfl) rfl ⟨show 400 + Int32.toNatClampNeg x589 + 1 + 0 + 0 ≤ 601024 from by omega, show 30000 + 6 * Int32.toNatClampNeg x589 + 6 + 0 + 0 ≤ 7293034 from by omega⟩ (fun h => hR _ h)
set_option maxHeartbeats 300000 in
theorem jn_L_law__2758 (G : ea_G) {res : ea_O}  (x603 : Int32) (m604 : ea_M) (hx603 : Int32.toNatClampNeg x603 ≤ 4000) {Φ : ((Int32 × ea_M) ⊕ ((Int32 × ea_M) ⊕ (ea_M))) → Prop} (hC : ∀ s23 : Int32 × ea_M, Φ (.inl s23) → ea_Ev G F_L_law_ res 23 [some (.ref 2000), some (.ref 0), some (.ref 272), some (.ref 287), some (.int s23.1), none, none] [] s23.2 (400 + Int32.toNatClampNeg s23.1) (30000 + 6 * Int32.toNatClampNeg s23.1)) (hR : ∀ t : Int32 × ea_M, Φ (.inr (.inl t)) → res = (0, t)) (hX : ∀ x23s : ea_M, Φ (.inr (.inr x23s)) → ea_Ev G F_L_law_ res 2851 [none, none, none, none, none, none, none] [] x23s 5000 60000) : ea_E G F_L_law_ res 2758 [some (.ref 2000), some (.ref 0), some (.ref 272), some (.ref 287), some (.int x603), none, none] [] m604 (400 + Int32.toNatClampNeg x603) (30000 + 6 * Int32.toNatClampNeg x603) (f_L_law__j2758 G x603 m604) Φ := by
  unfold f_L_law__j2758
  refine ev_aload_n (ea_at dt_L_law__27 54 rfl) rfl ?_
  refine ev_aload_n (ea_at dt_L_law__27 55 rfl) rfl ?_
  refine ev_iload (ea_at dt_L_law__27 56 rfl) rfl ?_
  refine ev_iconst (ea_at dt_L_law__27 57 rfl) ic_1 ?_
  refine ev_iadd (ea_at dt_L_law__27 58 rfl) ?_
  refine ev_script (ea_at dt_L_law__27 59 rfl) ?_
  refine ev_i (fun x605 => ?_)
  refine ev_clI (F1 := F_X11_seed) (fun rY mY hY => ea_runV (As := [.int x605]) (ea_at dt_L_law__28 0 rfl) ml_L_272 mv_X11_seed (ok_X11_seed G x605 m604 rY mY hY) sh_0 rfl rfl rfl (Nat.le_of_ble_eq_true rfl) (ea_okK rfl (show 400 + Int32.toNatClampNeg x603 + 0 ≤ 601024 from by omega) (show 30000 + 6 * Int32.toNatClampNeg x603 + 0 ≤ 7293034 from by omega))) rfl (fun r607 m606 => ?_)
  refine ev_aload_n (ea_at dt_L_law__28 1 rfl) rfl ?_
  refine ev_aload_n (ea_at dt_L_law__28 2 rfl) rfl ?_
  refine ev_iload (ea_at dt_L_law__28 3 rfl) rfl ?_
  refine ev_iconst (ea_at dt_L_law__28 4 rfl) ic_1 ?_
  refine ev_iadd (ea_at dt_L_law__28 5 rfl) ?_
  refine ev_script (ea_at dt_L_law__28 6 rfl) ?_
  refine ev_i (fun x608 => ?_)
  refine ev_clI (F1 := F_X12_seed) (fun rY mY hY => ea_runV (As := [.int x608]) (ea_at dt_L_law__28 7 rfl) ml_L_275 mv_X12_seed (ok_X12_seed G x608 m606 rY mY hY) sh_272 rfl rfl rfl (Nat.le_of_ble_eq_true rfl) (ea_okK rfl (show 400 + Int32.toNatClampNeg x603 + 0 + 0 ≤ 601024 from by omega) (show 30000 + 6 * Int32.toNatClampNeg x603 + 0 + 0 ≤ 7293034 from by omega))) rfl (fun r610 m609 => ?_)
  refine ev_icmp_eq (tgt := 2845) (ea_at dt_L_law__28 8 rfl) rfl (fun _ => ?_) (fun _ => ?_)
  · refine ev_wid (k' := 400 + Int32.toNatClampNeg x603 + 6) (n' := 30000 + 6 * Int32.toNatClampNeg x603 + 36) (show 400 + Int32.toNatClampNeg x603 + 0 + 0 ≤ 400 + Int32.toNatClampNeg x603 + 6 from by omega) (show 30000 + 6 * Int32.toNatClampNeg x603 + 0 + 0 ≤ 30000 + 6 * Int32.toNatClampNeg x603 + 36 from by omega) ?_
    exact ev_drop (l' := [some (.ref 2000), some (.ref 0), some (.ref 272), some (.ref 287), some (.int x603), none, none]) ⟨Or.inr rfl, Or.inr rfl, Or.inr rfl, Or.inr rfl, Or.inr rfl, Or.inl rfl, Or.inl rfl, trivial⟩ (jn_L_law__2845 G x603 m609 hx603 hC hR hX)
  · refine ev_iconst (ea_at dt_L_law__28 9 rfl) ic_0 ?_
    exact ev_zret (by decide) (ea_at dt_L_law__28 10 rfl) rfl ⟨show 400 + Int32.toNatClampNeg x603 + 0 + 0 ≤ 601024 from by omega, show 30000 + 6 * Int32.toNatClampNeg x603 + 0 + 0 ≤ 7293034 from by omega⟩ (fun h => hR _ h)
set_option maxHeartbeats 300000 in
theorem jn_L_law__2783 (G : ea_G) {res : ea_O}  (x611 : Int32) (m612 : ea_M) (hx611 : Int32.toNatClampNeg x611 ≤ 4000) {Φ : ((Int32 × ea_M) ⊕ ((Int32 × ea_M) ⊕ (ea_M))) → Prop} (hC : ∀ s23 : Int32 × ea_M, Φ (.inl s23) → ea_Ev G F_L_law_ res 23 [some (.ref 2000), some (.ref 0), some (.ref 272), some (.ref 287), some (.int s23.1), none, none] [] s23.2 (400 + Int32.toNatClampNeg s23.1) (30000 + 6 * Int32.toNatClampNeg s23.1)) (hR : ∀ t : Int32 × ea_M, Φ (.inr (.inl t)) → res = (0, t)) (hX : ∀ x23s : ea_M, Φ (.inr (.inr x23s)) → ea_Ev G F_L_law_ res 2851 [none, none, none, none, none, none, none] [] x23s 5000 60000) : ea_E G F_L_law_ res 2783 [some (.ref 2000), some (.ref 0), some (.ref 272), some (.ref 287), some (.int x611), none, none] [] m612 (400 + Int32.toNatClampNeg x611) (30000 + 6 * Int32.toNatClampNeg x611) (f_L_law__j2783 G x611 m612) Φ := by
  unfold f_L_law__j2783
  refine ev_aload_n (ea_at dt_L_law__28 11 rfl) rfl ?_
  refine ev_clI (F1 := F_X11_undo) (fun rY mY hY => ea_runV (As := []) (ea_at dt_L_law__28 12 rfl) ml_L_276 mv_X11_undo (ok_X11_undo G m612 rY mY hY) sh_0 rfl rfl rfl (Nat.le_of_ble_eq_true rfl) (ea_okK rfl (show 400 + Int32.toNatClampNeg x611 + 0 ≤ 601024 from by omega) (show 30000 + 6 * Int32.toNatClampNeg x611 + 0 ≤ 7293034 from by omega))) rfl (fun r614 m613 => ?_)
  refine ev_aload_n (ea_at dt_L_law__28 13 rfl) rfl ?_
  refine ev_clI (F1 := F_X12_undo) (fun rY mY hY => ea_runV (As := []) (ea_at dt_L_law__28 14 rfl) ml_L_280 mv_X12_undo (ok_X12_undo G m613 rY mY hY) sh_272 rfl rfl rfl (Nat.le_of_ble_eq_true rfl) (ea_okK rfl (show 400 + Int32.toNatClampNeg x611 + 0 + 0 ≤ 601024 from by omega) (show 30000 + 6 * Int32.toNatClampNeg x611 + 0 + 0 ≤ 7293034 from by omega))) rfl (fun r616 m615 => ?_)
  refine ev_icmp_eq (tgt := 2845) (ea_at dt_L_law__28 15 rfl) rfl (fun _ => ?_) (fun _ => ?_)
  · refine ev_wid (k' := 400 + Int32.toNatClampNeg x611 + 6) (n' := 30000 + 6 * Int32.toNatClampNeg x611 + 36) (show 400 + Int32.toNatClampNeg x611 + 0 + 0 ≤ 400 + Int32.toNatClampNeg x611 + 6 from by omega) (show 30000 + 6 * Int32.toNatClampNeg x611 + 0 + 0 ≤ 30000 + 6 * Int32.toNatClampNeg x611 + 36 from by omega) ?_
    exact ev_drop (l' := [some (.ref 2000), some (.ref 0), some (.ref 272), some (.ref 287), some (.int x611), none, none]) ⟨Or.inr rfl, Or.inr rfl, Or.inr rfl, Or.inr rfl, Or.inr rfl, Or.inl rfl, Or.inl rfl, trivial⟩ (jn_L_law__2845 G x611 m615 hx611 hC hR hX)
  · refine ev_iconst (ea_at dt_L_law__28 16 rfl) ic_0 ?_
    exact ev_zret (by decide) (ea_at dt_L_law__28 17 rfl) rfl ⟨show 400 + Int32.toNatClampNeg x611 + 0 + 0 ≤ 601024 from by omega, show 30000 + 6 * Int32.toNatClampNeg x611 + 0 + 0 ≤ 7293034 from by omega⟩ (fun h => hR _ h)
set_option maxHeartbeats 300000 in
theorem jn_L_law__2796 (G : ea_G) {res : ea_O}  (x617 : Int32) (m618 : ea_M) (hx617 : Int32.toNatClampNeg x617 ≤ 4000) {Φ : ((Int32 × ea_M) ⊕ ((Int32 × ea_M) ⊕ (ea_M))) → Prop} (hC : ∀ s23 : Int32 × ea_M, Φ (.inl s23) → ea_Ev G F_L_law_ res 23 [some (.ref 2000), some (.ref 0), some (.ref 272), some (.ref 287), some (.int s23.1), none, none] [] s23.2 (400 + Int32.toNatClampNeg s23.1) (30000 + 6 * Int32.toNatClampNeg s23.1)) (hR : ∀ t : Int32 × ea_M, Φ (.inr (.inl t)) → res = (0, t)) (hX : ∀ x23s : ea_M, Φ (.inr (.inr x23s)) → ea_Ev G F_L_law_ res 2851 [none, none, none, none, none, none, none] [] x23s 5000 60000) : ea_E G F_L_law_ res 2796 [some (.ref 2000), some (.ref 0), some (.ref 272), some (.ref 287), some (.int x617), none, none] [] m618 (400 + Int32.toNatClampNeg x617) (30000 + 6 * Int32.toNatClampNeg x617) (f_L_law__j2796 G x617 m618) Φ := by
  unfold f_L_law__j2796
  refine ev_aload_n (ea_at dt_L_law__28 18 rfl) rfl ?_
  refine ev_clU (F1 := F_X11_image) (fun rY mY hY => ea_runV (As := []) (ea_at dt_L_law__28 19 rfl) ml_L_281 mv_X11_image (ok_X11_image G m618 rY mY hY) sh_0 rfl rfl rfl (Nat.le_of_ble_eq_true rfl) (ea_okK rfl (show 400 + Int32.toNatClampNeg x617 + 0 ≤ 601024 from by omega) (show 30000 + 6 * Int32.toNatClampNeg x617 + 0 ≤ 7293034 from by omega))) rfl (fun r620 m619 => ?_)
  refine ev_aload_n (ea_at dt_L_law__28 20 rfl) rfl ?_
  refine ev_clU (F1 := F_X12_image) (fun rY mY hY => ea_runV (As := []) (ea_at dt_L_law__28 21 rfl) ml_L_284 mv_X12_image (ok_X12_image G m619 rY mY hY) sh_272 rfl rfl rfl (Nat.le_of_ble_eq_true rfl) (ea_okK rfl (show 400 + Int32.toNatClampNeg x617 + 0 + 0 ≤ 601024 from by omega) (show 30000 + 6 * Int32.toNatClampNeg x617 + 0 + 0 ≤ 7293034 from by omega))) rfl (fun r622 m621 => ?_)
  refine ev_goto (tgt := 2845) (ea_at dt_L_law__28 22 rfl) rfl ?_
  refine ev_wid (k' := 400 + Int32.toNatClampNeg x617 + 6) (n' := 30000 + 6 * Int32.toNatClampNeg x617 + 36) (show 400 + Int32.toNatClampNeg x617 + 0 + 0 ≤ 400 + Int32.toNatClampNeg x617 + 6 from by omega) (show 30000 + 6 * Int32.toNatClampNeg x617 + 0 + 0 ≤ 30000 + 6 * Int32.toNatClampNeg x617 + 36 from by omega) ?_
  exact ev_drop (l' := [some (.ref 2000), some (.ref 0), some (.ref 272), some (.ref 287), some (.int x617), none, none]) ⟨Or.inr rfl, Or.inr rfl, Or.inr rfl, Or.inr rfl, Or.inr rfl, Or.inl rfl, Or.inl rfl, trivial⟩ (jn_L_law__2845 G x617 m621 hx617 hC hR hX)
set_option maxHeartbeats 300000 in
theorem jn_L_law__2807 (G : ea_G) {res : ea_O}  (x623 : Int32) (m624 : ea_M) (hx623 : Int32.toNatClampNeg x623 ≤ 4000) {Φ : ((Int32 × ea_M) ⊕ ((Int32 × ea_M) ⊕ (ea_M))) → Prop} (hC : ∀ s23 : Int32 × ea_M, Φ (.inl s23) → ea_Ev G F_L_law_ res 23 [some (.ref 2000), some (.ref 0), some (.ref 272), some (.ref 287), some (.int s23.1), none, none] [] s23.2 (400 + Int32.toNatClampNeg s23.1) (30000 + 6 * Int32.toNatClampNeg s23.1)) (hR : ∀ t : Int32 × ea_M, Φ (.inr (.inl t)) → res = (0, t)) (hX : ∀ x23s : ea_M, Φ (.inr (.inr x23s)) → ea_Ev G F_L_law_ res 2851 [none, none, none, none, none, none, none] [] x23s 5000 60000) : ea_E G F_L_law_ res 2807 [some (.ref 2000), some (.ref 0), some (.ref 272), some (.ref 287), some (.int x623), none, none] [] m624 (400 + Int32.toNatClampNeg x623) (30000 + 6 * Int32.toNatClampNeg x623) (f_L_law__j2807 G x623 m624) Φ := by
  unfold f_L_law__j2807
  refine ev_aload_n (ea_at dt_L_law__28 23 rfl) rfl ?_
  refine ev_clI (F1 := F_X11_back) (fun rY mY hY => ea_runV (As := []) (ea_at dt_L_law__28 24 rfl) ml_L_285 mv_X11_back (ok_X11_back G m624 rY mY hY) sh_0 rfl rfl rfl (Nat.le_of_ble_eq_true rfl) (ea_okK rfl (show 400 + Int32.toNatClampNeg x623 + 0 ≤ 601024 from by omega) (show 30000 + 6 * Int32.toNatClampNeg x623 + 0 ≤ 7293034 from by omega))) rfl (fun r626 m625 => ?_)
  refine ev_aload_n (ea_at dt_L_law__28 25 rfl) rfl ?_
  refine ev_clI (F1 := F_X12_back) (fun rY mY hY => ea_runV (As := []) (ea_at dt_L_law__28 26 rfl) ml_L_288 mv_X12_back (ok_X12_back G m625 rY mY hY) sh_272 rfl rfl rfl (Nat.le_of_ble_eq_true rfl) (ea_okK rfl (show 400 + Int32.toNatClampNeg x623 + 0 + 0 ≤ 601024 from by omega) (show 30000 + 6 * Int32.toNatClampNeg x623 + 0 + 0 ≤ 7293034 from by omega))) rfl (fun r628 m627 => ?_)
  refine ev_icmp_eq (tgt := 2845) (ea_at dt_L_law__28 27 rfl) rfl (fun _ => ?_) (fun _ => ?_)
  · refine ev_wid (k' := 400 + Int32.toNatClampNeg x623 + 6) (n' := 30000 + 6 * Int32.toNatClampNeg x623 + 36) (show 400 + Int32.toNatClampNeg x623 + 0 + 0 ≤ 400 + Int32.toNatClampNeg x623 + 6 from by omega) (show 30000 + 6 * Int32.toNatClampNeg x623 + 0 + 0 ≤ 30000 + 6 * Int32.toNatClampNeg x623 + 36 from by omega) ?_
    exact ev_drop (l' := [some (.ref 2000), some (.ref 0), some (.ref 272), some (.ref 287), some (.int x623), none, none]) ⟨Or.inr rfl, Or.inr rfl, Or.inr rfl, Or.inr rfl, Or.inr rfl, Or.inl rfl, Or.inl rfl, trivial⟩ (jn_L_law__2845 G x623 m627 hx623 hC hR hX)
  · refine ev_iconst (ea_at dt_L_law__28 28 rfl) ic_0 ?_
    exact ev_zret (by decide) (ea_at dt_L_law__28 29 rfl) rfl ⟨show 400 + Int32.toNatClampNeg x623 + 0 + 0 ≤ 601024 from by omega, show 30000 + 6 * Int32.toNatClampNeg x623 + 0 + 0 ≤ 7293034 from by omega⟩ (fun h => hR _ h)
set_option maxHeartbeats 300000 in
theorem jn_L_law__2820 (G : ea_G) {res : ea_O}  (x629 : Int32) (m630 : ea_M) (hx629 : Int32.toNatClampNeg x629 ≤ 4000) {Φ : ((Int32 × ea_M) ⊕ ((Int32 × ea_M) ⊕ (ea_M))) → Prop} (hC : ∀ s23 : Int32 × ea_M, Φ (.inl s23) → ea_Ev G F_L_law_ res 23 [some (.ref 2000), some (.ref 0), some (.ref 272), some (.ref 287), some (.int s23.1), none, none] [] s23.2 (400 + Int32.toNatClampNeg s23.1) (30000 + 6 * Int32.toNatClampNeg s23.1)) (hR : ∀ t : Int32 × ea_M, Φ (.inr (.inl t)) → res = (0, t)) (hX : ∀ x23s : ea_M, Φ (.inr (.inr x23s)) → ea_Ev G F_L_law_ res 2851 [none, none, none, none, none, none, none] [] x23s 5000 60000) : ea_E G F_L_law_ res 2820 [some (.ref 2000), some (.ref 0), some (.ref 272), some (.ref 287), some (.int x629), none, none] [] m630 (400 + Int32.toNatClampNeg x629) (30000 + 6 * Int32.toNatClampNeg x629) (f_L_law__j2820 G x629 m630) Φ := by
  unfold f_L_law__j2820
  refine ev_aload_n (ea_at dt_L_law__28 30 rfl) rfl ?_
  refine ev_aload_n (ea_at dt_L_law__28 31 rfl) rfl ?_
  refine ev_iload (ea_at dt_L_law__28 32 rfl) rfl ?_
  refine ev_iconst (ea_at dt_L_law__28 33 rfl) ic_1 ?_
  refine ev_iadd (ea_at dt_L_law__28 34 rfl) ?_
  refine ev_script (ea_at dt_L_law__28 35 rfl) ?_
  refine ev_i (fun x631 => ?_)
  refine ev_clI (F1 := F_X11_count) (fun rY mY hY => ea_runV (As := [.int x631]) (ea_at dt_L_law__28 36 rfl) ml_L_289 mv_X11_count (ok_X11_count G x631 m630 rY mY hY) sh_0 rfl rfl rfl (Nat.le_of_ble_eq_true rfl) (ea_okK rfl (show 400 + Int32.toNatClampNeg x629 + 0 ≤ 601024 from by omega) (show 30000 + 6 * Int32.toNatClampNeg x629 + 0 ≤ 7293034 from by omega))) rfl (fun r633 m632 => ?_)
  refine ev_aload_n (ea_at dt_L_law__28 37 rfl) rfl ?_
  refine ev_aload_n (ea_at dt_L_law__28 38 rfl) rfl ?_
  refine ev_iload (ea_at dt_L_law__28 39 rfl) rfl ?_
  refine ev_iconst (ea_at dt_L_law__28 40 rfl) ic_1 ?_
  refine ev_iadd (ea_at dt_L_law__28 41 rfl) ?_
  refine ev_script (ea_at dt_L_law__28 42 rfl) ?_
  refine ev_i (fun x634 => ?_)
  refine ev_clI (F1 := F_X12_count) (fun rY mY hY => ea_runV (As := [.int x634]) (ea_at dt_L_law__28 43 rfl) ml_L_292 mv_X12_count (ok_X12_count G x634 m632 rY mY hY) sh_272 rfl rfl rfl (Nat.le_of_ble_eq_true rfl) (ea_okK rfl (show 400 + Int32.toNatClampNeg x629 + 0 + 0 ≤ 601024 from by omega) (show 30000 + 6 * Int32.toNatClampNeg x629 + 0 + 0 ≤ 7293034 from by omega))) rfl (fun r636 m635 => ?_)
  refine ev_icmp_eq (tgt := 2845) (ea_at dt_L_law__28 44 rfl) rfl (fun _ => ?_) (fun _ => ?_)
  · refine ev_wid (k' := 400 + Int32.toNatClampNeg x629 + 6) (n' := 30000 + 6 * Int32.toNatClampNeg x629 + 36) (show 400 + Int32.toNatClampNeg x629 + 0 + 0 ≤ 400 + Int32.toNatClampNeg x629 + 6 from by omega) (show 30000 + 6 * Int32.toNatClampNeg x629 + 0 + 0 ≤ 30000 + 6 * Int32.toNatClampNeg x629 + 36 from by omega) ?_
    exact ev_drop (l' := [some (.ref 2000), some (.ref 0), some (.ref 272), some (.ref 287), some (.int x629), none, none]) ⟨Or.inr rfl, Or.inr rfl, Or.inr rfl, Or.inr rfl, Or.inr rfl, Or.inl rfl, Or.inl rfl, trivial⟩ (jn_L_law__2845 G x629 m635 hx629 hC hR hX)
  · refine ev_iconst (ea_at dt_L_law__28 45 rfl) ic_0 ?_
    exact ev_zret (by decide) (ea_at dt_L_law__28 46 rfl) rfl ⟨show 400 + Int32.toNatClampNeg x629 + 0 + 0 ≤ 601024 from by omega, show 30000 + 6 * Int32.toNatClampNeg x629 + 0 + 0 ≤ 7293034 from by omega⟩ (fun h => hR _ h)
set_option maxHeartbeats 2000000 in
theorem lp_L_law__23 (G : ea_G) {res : ea_O} {Ψ : ((Int32 × ea_M) ⊕ ea_M) → Prop} (hR : ∀ t : Int32 × ea_M, Ψ (.inl t) → res = (0, t)) (hX : ∀ x23s : ea_M, Ψ (.inr x23s) → ea_Ev G F_L_law_ res 2851 [none, none, none, none, none, none, none] [] x23s 5000 60000) : ∀ (f : Nat) (s23 : Int32 × ea_M), ea_E G F_L_law_ res 23 [some (.ref 2000), some (.ref 0), some (.ref 272), some (.ref 287), some (.int s23.1), none, none] [] s23.2 (400 + Int32.toNatClampNeg s23.1) (30000 + 6 * Int32.toNatClampNeg s23.1) (ea_loop (f_L_law__s23 G) f s23) Ψ := by
  refine ev_loopK (G := G) (F := F_L_law_) (res := res) (pc := 23) (st := []) (step := f_L_law__s23 G) (Ψ := Ψ) (fun (s23 : Int32 × ea_M) => [some (.ref 2000), some (.ref 0), some (.ref 272), some (.ref 287), some (.int s23.1), none, none]) (fun (s23 : Int32 × ea_M) => s23.2) (fun s23 => 400 + Int32.toNatClampNeg s23.1) (fun s23 => 30000 + 6 * Int32.toNatClampNeg s23.1) (fun s23 => ?_)
  have hC : ∀ s23 : Int32 × ea_M, (Sum.elim (fun s23 : Int32 × ea_M => ea_Ev G F_L_law_ res 23 [some (.ref 2000), some (.ref 0), some (.ref 272), some (.ref 287), some (.int s23.1), none, none] [] s23.2 (400 + Int32.toNatClampNeg s23.1) (30000 + 6 * Int32.toNatClampNeg s23.1)) Ψ) (.inl s23) → ea_Ev G F_L_law_ res 23 [some (.ref 2000), some (.ref 0), some (.ref 272), some (.ref 287), some (.int s23.1), none, none] [] s23.2 (400 + Int32.toNatClampNeg s23.1) (30000 + 6 * Int32.toNatClampNeg s23.1) := fun _ h => h
  have hR : ∀ t : Int32 × ea_M, (Sum.elim (fun s23 : Int32 × ea_M => ea_Ev G F_L_law_ res 23 [some (.ref 2000), some (.ref 0), some (.ref 272), some (.ref 287), some (.int s23.1), none, none] [] s23.2 (400 + Int32.toNatClampNeg s23.1) (30000 + 6 * Int32.toNatClampNeg s23.1)) Ψ) (.inr (.inl t)) → res = (0, t) := hR
  have hX : ∀ x23s : ea_M, (Sum.elim (fun s23 : Int32 × ea_M => ea_Ev G F_L_law_ res 23 [some (.ref 2000), some (.ref 0), some (.ref 272), some (.ref 287), some (.int s23.1), none, none] [] s23.2 (400 + Int32.toNatClampNeg s23.1) (30000 + 6 * Int32.toNatClampNeg s23.1)) Ψ) (.inr (.inr x23s)) → ea_Ev G F_L_law_ res 2851 [none, none, none, none, none, none, none] [] x23s 5000 60000 := hX
  unfold f_L_law__s23
  refine ev_ite (fun hB => ?_) (fun _ => ev_none)
  refine ev_iload (ea_at dt_L_law__0 13 rfl) rfl ?_
  refine ev_aload_n (ea_at dt_L_law__0 14 rfl) rfl ?_
  refine ev_slen (ea_at dt_L_law__0 15 rfl) ?_
  refine ev_bipush (ea_at dt_L_law__0 16 rfl) bp_6 ?_
  refine ev_isub (ea_at dt_L_law__0 17 rfl) ?_
  refine ev_icmp_gt (tgt := 2851) (ea_at dt_L_law__0 18 rfl) rfl (fun _ => ?_) (fun _ => ?_)
  · exact ev_leaf (fun h => ea_drop (l' := [none, none, none, none, none, none, none]) ⟨Or.inl rfl, Or.inl rfl, Or.inl rfl, Or.inl rfl, Or.inl rfl, Or.inl rfl, Or.inl rfl, trivial⟩ (ea_widen (show 400 + Int32.toNatClampNeg s23.1 ≤ 5000 from by omega) (show 30000 + 6 * Int32.toNatClampNeg s23.1 ≤ 60000 from by omega) (hX s23.2 h)))
  · refine ev_aload_n (ea_at dt_L_law__0 19 rfl) rfl ?_
    refine ev_iload (ea_at dt_L_law__0 20 rfl) rfl ?_
    refine ev_script (ea_at dt_L_law__0 21 rfl) ?_
    refine ev_i (fun x1 => ?_)
    refine ev_bipush (ea_at dt_L_law__0 22 rfl) bp_63 ?_
    refine ev_iand (ea_at dt_L_law__0 23 rfl) ?_
    refine ev_ite (fun n0 => ?_) (fun n0 => ?_)
    · refine ev_tsw (c := 0) (tgt := 232) n0 (ea_at dt_L_law__0 24 rfl) (by decide) (by decide) rfl rfl ?_
      refine ev_wid (k' := 400 + Int32.toNatClampNeg s23.1) (n' := 30000 + 6 * Int32.toNatClampNeg s23.1) (show 400 + Int32.toNatClampNeg s23.1 ≤ 400 + Int32.toNatClampNeg s23.1 from by omega) (show 30000 + 6 * Int32.toNatClampNeg s23.1 ≤ 30000 + 6 * Int32.toNatClampNeg s23.1 from by omega) ?_
      exact ev_drop (l' := [some (.ref 2000), some (.ref 0), some (.ref 272), some (.ref 287), some (.int s23.1), none, none]) ⟨Or.inr rfl, Or.inr rfl, Or.inr rfl, Or.inr rfl, Or.inr rfl, Or.inl rfl, Or.inl rfl, trivial⟩ (jn_L_law__232 G s23.1 s23.2 hB hC hR hX)
    · refine ev_ite (fun n1 => ?_) (fun n1 => ?_)
      · refine ev_tsw (c := 1) (tgt := 305) n1 (ea_at dt_L_law__0 24 rfl) (by decide) (by decide) rfl rfl ?_
        refine ev_wid (k' := 400 + Int32.toNatClampNeg s23.1) (n' := 30000 + 6 * Int32.toNatClampNeg s23.1) (show 400 + Int32.toNatClampNeg s23.1 ≤ 400 + Int32.toNatClampNeg s23.1 from by omega) (show 30000 + 6 * Int32.toNatClampNeg s23.1 ≤ 30000 + 6 * Int32.toNatClampNeg s23.1 from by omega) ?_
        exact ev_drop (l' := [some (.ref 2000), some (.ref 0), some (.ref 272), some (.ref 287), some (.int s23.1), none, none]) ⟨Or.inr rfl, Or.inr rfl, Or.inr rfl, Or.inr rfl, Or.inr rfl, Or.inl rfl, Or.inl rfl, trivial⟩ (jn_L_law__305 G s23.1 s23.2 hB hC hR hX)
      · refine ev_ite (fun n2 => ?_) (fun n2 => ?_)
        · refine ev_tsw (c := 2) (tgt := 330) n2 (ea_at dt_L_law__0 24 rfl) (by decide) (by decide) rfl rfl ?_
          refine ev_wid (k' := 400 + Int32.toNatClampNeg s23.1) (n' := 30000 + 6 * Int32.toNatClampNeg s23.1) (show 400 + Int32.toNatClampNeg s23.1 ≤ 400 + Int32.toNatClampNeg s23.1 from by omega) (show 30000 + 6 * Int32.toNatClampNeg s23.1 ≤ 30000 + 6 * Int32.toNatClampNeg s23.1 from by omega) ?_
          exact ev_drop (l' := [some (.ref 2000), some (.ref 0), some (.ref 272), some (.ref 287), some (.int s23.1), none, none]) ⟨Or.inr rfl, Or.inr rfl, Or.inr rfl, Or.inr rfl, Or.inr rfl, Or.inl rfl, Or.inl rfl, trivial⟩ (jn_L_law__330 G s23.1 s23.2 hB hC hR hX)
        · refine ev_ite (fun n3 => ?_) (fun n3 => ?_)
          · refine ev_tsw (c := 3) (tgt := 374) n3 (ea_at dt_L_law__0 24 rfl) (by decide) (by decide) rfl rfl ?_
            refine ev_wid (k' := 400 + Int32.toNatClampNeg s23.1) (n' := 30000 + 6 * Int32.toNatClampNeg s23.1) (show 400 + Int32.toNatClampNeg s23.1 ≤ 400 + Int32.toNatClampNeg s23.1 from by omega) (show 30000 + 6 * Int32.toNatClampNeg s23.1 ≤ 30000 + 6 * Int32.toNatClampNeg s23.1 from by omega) ?_
            exact ev_drop (l' := [some (.ref 2000), some (.ref 0), some (.ref 272), some (.ref 287), some (.int s23.1), none, none]) ⟨Or.inr rfl, Or.inr rfl, Or.inr rfl, Or.inr rfl, Or.inr rfl, Or.inl rfl, Or.inl rfl, trivial⟩ (jn_L_law__374 G s23.1 s23.2 hB hC hR hX)
          · refine ev_ite (fun n4 => ?_) (fun n4 => ?_)
            · refine ev_tsw (c := 4) (tgt := 418) n4 (ea_at dt_L_law__0 24 rfl) (by decide) (by decide) rfl rfl ?_
              refine ev_wid (k' := 400 + Int32.toNatClampNeg s23.1) (n' := 30000 + 6 * Int32.toNatClampNeg s23.1) (show 400 + Int32.toNatClampNeg s23.1 ≤ 400 + Int32.toNatClampNeg s23.1 from by omega) (show 30000 + 6 * Int32.toNatClampNeg s23.1 ≤ 30000 + 6 * Int32.toNatClampNeg s23.1 from by omega) ?_
              exact ev_drop (l' := [some (.ref 2000), some (.ref 0), some (.ref 272), some (.ref 287), some (.int s23.1), none, none]) ⟨Or.inr rfl, Or.inr rfl, Or.inr rfl, Or.inr rfl, Or.inr rfl, Or.inl rfl, Or.inl rfl, trivial⟩ (jn_L_law__418 G s23.1 s23.2 hB hC hR hX)
            · refine ev_ite (fun n5 => ?_) (fun n5 => ?_)
              · refine ev_tsw (c := 5) (tgt := 431) n5 (ea_at dt_L_law__0 24 rfl) (by decide) (by decide) rfl rfl ?_
                refine ev_wid (k' := 400 + Int32.toNatClampNeg s23.1) (n' := 30000 + 6 * Int32.toNatClampNeg s23.1) (show 400 + Int32.toNatClampNeg s23.1 ≤ 400 + Int32.toNatClampNeg s23.1 from by omega) (show 30000 + 6 * Int32.toNatClampNeg s23.1 ≤ 30000 + 6 * Int32.toNatClampNeg s23.1 from by omega) ?_
                exact ev_drop (l' := [some (.ref 2000), some (.ref 0), some (.ref 272), some (.ref 287), some (.int s23.1), none, none]) ⟨Or.inr rfl, Or.inr rfl, Or.inr rfl, Or.inr rfl, Or.inr rfl, Or.inl rfl, Or.inl rfl, trivial⟩ (jn_L_law__431 G s23.1 s23.2 hB hC hR hX)
              · refine ev_ite (fun n6 => ?_) (fun n6 => ?_)
                · refine ev_tsw (c := 6) (tgt := 499) n6 (ea_at dt_L_law__0 24 rfl) (by decide) (by decide) rfl rfl ?_
                  refine ev_wid (k' := 400 + Int32.toNatClampNeg s23.1) (n' := 30000 + 6 * Int32.toNatClampNeg s23.1) (show 400 + Int32.toNatClampNeg s23.1 ≤ 400 + Int32.toNatClampNeg s23.1 from by omega) (show 30000 + 6 * Int32.toNatClampNeg s23.1 ≤ 30000 + 6 * Int32.toNatClampNeg s23.1 from by omega) ?_
                  exact ev_drop (l' := [some (.ref 2000), some (.ref 0), some (.ref 272), some (.ref 287), some (.int s23.1), none, none]) ⟨Or.inr rfl, Or.inr rfl, Or.inr rfl, Or.inr rfl, Or.inr rfl, Or.inl rfl, Or.inl rfl, trivial⟩ (jn_L_law__499 G s23.1 s23.2 hB hC hR hX)
                · refine ev_ite (fun n7 => ?_) (fun n7 => ?_)
                  · refine ev_tsw (c := 7) (tgt := 567) n7 (ea_at dt_L_law__0 24 rfl) (by decide) (by decide) rfl rfl ?_
                    refine ev_wid (k' := 400 + Int32.toNatClampNeg s23.1) (n' := 30000 + 6 * Int32.toNatClampNeg s23.1) (show 400 + Int32.toNatClampNeg s23.1 ≤ 400 + Int32.toNatClampNeg s23.1 from by omega) (show 30000 + 6 * Int32.toNatClampNeg s23.1 ≤ 30000 + 6 * Int32.toNatClampNeg s23.1 from by omega) ?_
                    exact ev_drop (l' := [some (.ref 2000), some (.ref 0), some (.ref 272), some (.ref 287), some (.int s23.1), none, none]) ⟨Or.inr rfl, Or.inr rfl, Or.inr rfl, Or.inr rfl, Or.inr rfl, Or.inl rfl, Or.inl rfl, trivial⟩ (jn_L_law__567 G s23.1 s23.2 hB hC hR hX)
                  · refine ev_ite (fun n8 => ?_) (fun n8 => ?_)
                    · refine ev_tsw (c := 8) (tgt := 635) n8 (ea_at dt_L_law__0 24 rfl) (by decide) (by decide) rfl rfl ?_
                      refine ev_wid (k' := 400 + Int32.toNatClampNeg s23.1) (n' := 30000 + 6 * Int32.toNatClampNeg s23.1) (show 400 + Int32.toNatClampNeg s23.1 ≤ 400 + Int32.toNatClampNeg s23.1 from by omega) (show 30000 + 6 * Int32.toNatClampNeg s23.1 ≤ 30000 + 6 * Int32.toNatClampNeg s23.1 from by omega) ?_
                      exact ev_drop (l' := [some (.ref 2000), some (.ref 0), some (.ref 272), some (.ref 287), some (.int s23.1), none, none]) ⟨Or.inr rfl, Or.inr rfl, Or.inr rfl, Or.inr rfl, Or.inr rfl, Or.inl rfl, Or.inl rfl, trivial⟩ (jn_L_law__635 G s23.1 s23.2 hB hC hR hX)
                    · refine ev_ite (fun n9 => ?_) (fun n9 => ?_)
                      · refine ev_tsw (c := 9) (tgt := 691) n9 (ea_at dt_L_law__0 24 rfl) (by decide) (by decide) rfl rfl ?_
                        refine ev_wid (k' := 400 + Int32.toNatClampNeg s23.1) (n' := 30000 + 6 * Int32.toNatClampNeg s23.1) (show 400 + Int32.toNatClampNeg s23.1 ≤ 400 + Int32.toNatClampNeg s23.1 from by omega) (show 30000 + 6 * Int32.toNatClampNeg s23.1 ≤ 30000 + 6 * Int32.toNatClampNeg s23.1 from by omega) ?_
                        exact ev_drop (l' := [some (.ref 2000), some (.ref 0), some (.ref 272), some (.ref 287), some (.int s23.1), none, none]) ⟨Or.inr rfl, Or.inr rfl, Or.inr rfl, Or.inr rfl, Or.inr rfl, Or.inl rfl, Or.inl rfl, trivial⟩ (jn_L_law__691 G s23.1 s23.2 hB hC hR hX)
                      · refine ev_ite (fun n10 => ?_) (fun n10 => ?_)
                        · refine ev_tsw (c := 10) (tgt := 811) n10 (ea_at dt_L_law__0 24 rfl) (by decide) (by decide) rfl rfl ?_
                          refine ev_wid (k' := 400 + Int32.toNatClampNeg s23.1) (n' := 30000 + 6 * Int32.toNatClampNeg s23.1) (show 400 + Int32.toNatClampNeg s23.1 ≤ 400 + Int32.toNatClampNeg s23.1 from by omega) (show 30000 + 6 * Int32.toNatClampNeg s23.1 ≤ 30000 + 6 * Int32.toNatClampNeg s23.1 from by omega) ?_
                          exact ev_drop (l' := [some (.ref 2000), some (.ref 0), some (.ref 272), some (.ref 287), some (.int s23.1), none, none]) ⟨Or.inr rfl, Or.inr rfl, Or.inr rfl, Or.inr rfl, Or.inr rfl, Or.inl rfl, Or.inl rfl, trivial⟩ (jn_L_law__811 G s23.1 s23.2 hB hC hR hX)
                        · refine ev_ite (fun n11 => ?_) (fun n11 => ?_)
                          · refine ev_tsw (c := 11) (tgt := 891) n11 (ea_at dt_L_law__0 24 rfl) (by decide) (by decide) rfl rfl ?_
                            refine ev_wid (k' := 400 + Int32.toNatClampNeg s23.1) (n' := 30000 + 6 * Int32.toNatClampNeg s23.1) (show 400 + Int32.toNatClampNeg s23.1 ≤ 400 + Int32.toNatClampNeg s23.1 from by omega) (show 30000 + 6 * Int32.toNatClampNeg s23.1 ≤ 30000 + 6 * Int32.toNatClampNeg s23.1 from by omega) ?_
                            exact ev_drop (l' := [some (.ref 2000), some (.ref 0), some (.ref 272), some (.ref 287), some (.int s23.1), none, none]) ⟨Or.inr rfl, Or.inr rfl, Or.inr rfl, Or.inr rfl, Or.inr rfl, Or.inl rfl, Or.inl rfl, trivial⟩ (jn_L_law__891 G s23.1 s23.2 hB hC hR hX)
                          · refine ev_ite (fun n12 => ?_) (fun n12 => ?_)
                            · refine ev_tsw (c := 12) (tgt := 947) n12 (ea_at dt_L_law__0 24 rfl) (by decide) (by decide) rfl rfl ?_
                              refine ev_wid (k' := 400 + Int32.toNatClampNeg s23.1) (n' := 30000 + 6 * Int32.toNatClampNeg s23.1) (show 400 + Int32.toNatClampNeg s23.1 ≤ 400 + Int32.toNatClampNeg s23.1 from by omega) (show 30000 + 6 * Int32.toNatClampNeg s23.1 ≤ 30000 + 6 * Int32.toNatClampNeg s23.1 from by omega) ?_
                              exact ev_drop (l' := [some (.ref 2000), some (.ref 0), some (.ref 272), some (.ref 287), some (.int s23.1), none, none]) ⟨Or.inr rfl, Or.inr rfl, Or.inr rfl, Or.inr rfl, Or.inr rfl, Or.inl rfl, Or.inl rfl, trivial⟩ (jn_L_law__947 G s23.1 s23.2 hB hC hR hX)
                            · refine ev_ite (fun n13 => ?_) (fun n13 => ?_)
                              · refine ev_tsw (c := 13) (tgt := 1015) n13 (ea_at dt_L_law__0 24 rfl) (by decide) (by decide) rfl rfl ?_
                                refine ev_wid (k' := 400 + Int32.toNatClampNeg s23.1) (n' := 30000 + 6 * Int32.toNatClampNeg s23.1) (show 400 + Int32.toNatClampNeg s23.1 ≤ 400 + Int32.toNatClampNeg s23.1 from by omega) (show 30000 + 6 * Int32.toNatClampNeg s23.1 ≤ 30000 + 6 * Int32.toNatClampNeg s23.1 from by omega) ?_
                                exact ev_drop (l' := [some (.ref 2000), some (.ref 0), some (.ref 272), some (.ref 287), some (.int s23.1), none, none]) ⟨Or.inr rfl, Or.inr rfl, Or.inr rfl, Or.inr rfl, Or.inr rfl, Or.inl rfl, Or.inl rfl, trivial⟩ (jn_L_law__1015 G s23.1 s23.2 hB hC hR hX)
                              · refine ev_ite (fun n14 => ?_) (fun n14 => ?_)
                                · refine ev_tsw (c := 14) (tgt := 1107) n14 (ea_at dt_L_law__0 24 rfl) (by decide) (by decide) rfl rfl ?_
                                  refine ev_wid (k' := 400 + Int32.toNatClampNeg s23.1) (n' := 30000 + 6 * Int32.toNatClampNeg s23.1) (show 400 + Int32.toNatClampNeg s23.1 ≤ 400 + Int32.toNatClampNeg s23.1 from by omega) (show 30000 + 6 * Int32.toNatClampNeg s23.1 ≤ 30000 + 6 * Int32.toNatClampNeg s23.1 from by omega) ?_
                                  exact ev_drop (l' := [some (.ref 2000), some (.ref 0), some (.ref 272), some (.ref 287), some (.int s23.1), none, none]) ⟨Or.inr rfl, Or.inr rfl, Or.inr rfl, Or.inr rfl, Or.inr rfl, Or.inl rfl, Or.inl rfl, trivial⟩ (jn_L_law__1107 G s23.1 s23.2 hB hC hR hX)
                                · refine ev_ite (fun n15 => ?_) (fun n15 => ?_)
                                  · refine ev_tsw (c := 15) (tgt := 1163) n15 (ea_at dt_L_law__0 24 rfl) (by decide) (by decide) rfl rfl ?_
                                    refine ev_wid (k' := 400 + Int32.toNatClampNeg s23.1) (n' := 30000 + 6 * Int32.toNatClampNeg s23.1) (show 400 + Int32.toNatClampNeg s23.1 ≤ 400 + Int32.toNatClampNeg s23.1 from by omega) (show 30000 + 6 * Int32.toNatClampNeg s23.1 ≤ 30000 + 6 * Int32.toNatClampNeg s23.1 from by omega) ?_
                                    exact ev_drop (l' := [some (.ref 2000), some (.ref 0), some (.ref 272), some (.ref 287), some (.int s23.1), none, none]) ⟨Or.inr rfl, Or.inr rfl, Or.inr rfl, Or.inr rfl, Or.inr rfl, Or.inl rfl, Or.inl rfl, trivial⟩ (jn_L_law__1163 G s23.1 s23.2 hB hC hR hX)
                                  · refine ev_ite (fun n16 => ?_) (fun n16 => ?_)
                                    · refine ev_tsw (c := 16) (tgt := 1219) n16 (ea_at dt_L_law__0 24 rfl) (by decide) (by decide) rfl rfl ?_
                                      refine ev_wid (k' := 400 + Int32.toNatClampNeg s23.1) (n' := 30000 + 6 * Int32.toNatClampNeg s23.1) (show 400 + Int32.toNatClampNeg s23.1 ≤ 400 + Int32.toNatClampNeg s23.1 from by omega) (show 30000 + 6 * Int32.toNatClampNeg s23.1 ≤ 30000 + 6 * Int32.toNatClampNeg s23.1 from by omega) ?_
                                      exact ev_drop (l' := [some (.ref 2000), some (.ref 0), some (.ref 272), some (.ref 287), some (.int s23.1), none, none]) ⟨Or.inr rfl, Or.inr rfl, Or.inr rfl, Or.inr rfl, Or.inr rfl, Or.inl rfl, Or.inl rfl, trivial⟩ (jn_L_law__1219 G s23.1 s23.2 hB hC hR hX)
                                    · refine ev_ite (fun n17 => ?_) (fun n17 => ?_)
                                      · refine ev_tsw (c := 17) (tgt := 1287) n17 (ea_at dt_L_law__0 24 rfl) (by decide) (by decide) rfl rfl ?_
                                        refine ev_wid (k' := 400 + Int32.toNatClampNeg s23.1) (n' := 30000 + 6 * Int32.toNatClampNeg s23.1) (show 400 + Int32.toNatClampNeg s23.1 ≤ 400 + Int32.toNatClampNeg s23.1 from by omega) (show 30000 + 6 * Int32.toNatClampNeg s23.1 ≤ 30000 + 6 * Int32.toNatClampNeg s23.1 from by omega) ?_
                                        exact ev_drop (l' := [some (.ref 2000), some (.ref 0), some (.ref 272), some (.ref 287), some (.int s23.1), none, none]) ⟨Or.inr rfl, Or.inr rfl, Or.inr rfl, Or.inr rfl, Or.inr rfl, Or.inl rfl, Or.inl rfl, trivial⟩ (jn_L_law__1287 G s23.1 s23.2 hB hC hR hX)
                                      · refine ev_ite (fun n18 => ?_) (fun n18 => ?_)
                                        · refine ev_tsw (c := 18) (tgt := 1355) n18 (ea_at dt_L_law__0 24 rfl) (by decide) (by decide) rfl rfl ?_
                                          refine ev_wid (k' := 400 + Int32.toNatClampNeg s23.1) (n' := 30000 + 6 * Int32.toNatClampNeg s23.1) (show 400 + Int32.toNatClampNeg s23.1 ≤ 400 + Int32.toNatClampNeg s23.1 from by omega) (show 30000 + 6 * Int32.toNatClampNeg s23.1 ≤ 30000 + 6 * Int32.toNatClampNeg s23.1 from by omega) ?_
                                          exact ev_drop (l' := [some (.ref 2000), some (.ref 0), some (.ref 272), some (.ref 287), some (.int s23.1), none, none]) ⟨Or.inr rfl, Or.inr rfl, Or.inr rfl, Or.inr rfl, Or.inr rfl, Or.inl rfl, Or.inl rfl, trivial⟩ (jn_L_law__1355 G s23.1 s23.2 hB hC hR hX)
                                        · refine ev_ite (fun n19 => ?_) (fun n19 => ?_)
                                          · refine ev_tsw (c := 19) (tgt := 1423) n19 (ea_at dt_L_law__0 24 rfl) (by decide) (by decide) rfl rfl ?_
                                            refine ev_wid (k' := 400 + Int32.toNatClampNeg s23.1) (n' := 30000 + 6 * Int32.toNatClampNeg s23.1) (show 400 + Int32.toNatClampNeg s23.1 ≤ 400 + Int32.toNatClampNeg s23.1 from by omega) (show 30000 + 6 * Int32.toNatClampNeg s23.1 ≤ 30000 + 6 * Int32.toNatClampNeg s23.1 from by omega) ?_
                                            exact ev_drop (l' := [some (.ref 2000), some (.ref 0), some (.ref 272), some (.ref 287), some (.int s23.1), none, none]) ⟨Or.inr rfl, Or.inr rfl, Or.inr rfl, Or.inr rfl, Or.inr rfl, Or.inl rfl, Or.inl rfl, trivial⟩ (jn_L_law__1423 G s23.1 s23.2 hB hC hR hX)
                                          · refine ev_ite (fun n20 => ?_) (fun n20 => ?_)
                                            · refine ev_tsw (c := 20) (tgt := 1507) n20 (ea_at dt_L_law__0 24 rfl) (by decide) (by decide) rfl rfl ?_
                                              refine ev_wid (k' := 400 + Int32.toNatClampNeg s23.1) (n' := 30000 + 6 * Int32.toNatClampNeg s23.1) (show 400 + Int32.toNatClampNeg s23.1 ≤ 400 + Int32.toNatClampNeg s23.1 from by omega) (show 30000 + 6 * Int32.toNatClampNeg s23.1 ≤ 30000 + 6 * Int32.toNatClampNeg s23.1 from by omega) ?_
                                              exact ev_drop (l' := [some (.ref 2000), some (.ref 0), some (.ref 272), some (.ref 287), some (.int s23.1), none, none]) ⟨Or.inr rfl, Or.inr rfl, Or.inr rfl, Or.inr rfl, Or.inr rfl, Or.inl rfl, Or.inl rfl, trivial⟩ (jn_L_law__1507 G s23.1 s23.2 hB hC hR hX)
                                            · refine ev_ite (fun n21 => ?_) (fun n21 => ?_)
                                              · refine ev_tsw (c := 21) (tgt := 1587) n21 (ea_at dt_L_law__0 24 rfl) (by decide) (by decide) rfl rfl ?_
                                                refine ev_wid (k' := 400 + Int32.toNatClampNeg s23.1) (n' := 30000 + 6 * Int32.toNatClampNeg s23.1) (show 400 + Int32.toNatClampNeg s23.1 ≤ 400 + Int32.toNatClampNeg s23.1 from by omega) (show 30000 + 6 * Int32.toNatClampNeg s23.1 ≤ 30000 + 6 * Int32.toNatClampNeg s23.1 from by omega) ?_
                                                exact ev_drop (l' := [some (.ref 2000), some (.ref 0), some (.ref 272), some (.ref 287), some (.int s23.1), none, none]) ⟨Or.inr rfl, Or.inr rfl, Or.inr rfl, Or.inr rfl, Or.inr rfl, Or.inl rfl, Or.inl rfl, trivial⟩ (jn_L_law__1587 G s23.1 s23.2 hB hC hR hX)
                                              · refine ev_ite (fun n22 => ?_) (fun n22 => ?_)
                                                · refine ev_tsw (c := 22) (tgt := 1655) n22 (ea_at dt_L_law__0 24 rfl) (by decide) (by decide) rfl rfl ?_
                                                  refine ev_wid (k' := 400 + Int32.toNatClampNeg s23.1) (n' := 30000 + 6 * Int32.toNatClampNeg s23.1) (show 400 + Int32.toNatClampNeg s23.1 ≤ 400 + Int32.toNatClampNeg s23.1 from by omega) (show 30000 + 6 * Int32.toNatClampNeg s23.1 ≤ 30000 + 6 * Int32.toNatClampNeg s23.1 from by omega) ?_
                                                  exact ev_drop (l' := [some (.ref 2000), some (.ref 0), some (.ref 272), some (.ref 287), some (.int s23.1), none, none]) ⟨Or.inr rfl, Or.inr rfl, Or.inr rfl, Or.inr rfl, Or.inr rfl, Or.inl rfl, Or.inl rfl, trivial⟩ (jn_L_law__1655 G s23.1 s23.2 hB hC hR hX)
                                                · refine ev_ite (fun n23 => ?_) (fun n23 => ?_)
                                                  · refine ev_tsw (c := 23) (tgt := 1723) n23 (ea_at dt_L_law__0 24 rfl) (by decide) (by decide) rfl rfl ?_
                                                    refine ev_wid (k' := 400 + Int32.toNatClampNeg s23.1) (n' := 30000 + 6 * Int32.toNatClampNeg s23.1) (show 400 + Int32.toNatClampNeg s23.1 ≤ 400 + Int32.toNatClampNeg s23.1 from by omega) (show 30000 + 6 * Int32.toNatClampNeg s23.1 ≤ 30000 + 6 * Int32.toNatClampNeg s23.1 from by omega) ?_
                                                    exact ev_drop (l' := [some (.ref 2000), some (.ref 0), some (.ref 272), some (.ref 287), some (.int s23.1), none, none]) ⟨Or.inr rfl, Or.inr rfl, Or.inr rfl, Or.inr rfl, Or.inr rfl, Or.inl rfl, Or.inl rfl, trivial⟩ (jn_L_law__1723 G s23.1 s23.2 hB hC hR hX)
                                                  · refine ev_ite (fun n24 => ?_) (fun n24 => ?_)
                                                    · refine ev_tsw (c := 24) (tgt := 1835) n24 (ea_at dt_L_law__0 24 rfl) (by decide) (by decide) rfl rfl ?_
                                                      refine ev_wid (k' := 400 + Int32.toNatClampNeg s23.1) (n' := 30000 + 6 * Int32.toNatClampNeg s23.1) (show 400 + Int32.toNatClampNeg s23.1 ≤ 400 + Int32.toNatClampNeg s23.1 from by omega) (show 30000 + 6 * Int32.toNatClampNeg s23.1 ≤ 30000 + 6 * Int32.toNatClampNeg s23.1 from by omega) ?_
                                                      exact ev_drop (l' := [some (.ref 2000), some (.ref 0), some (.ref 272), some (.ref 287), some (.int s23.1), none, none]) ⟨Or.inr rfl, Or.inr rfl, Or.inr rfl, Or.inr rfl, Or.inr rfl, Or.inl rfl, Or.inl rfl, trivial⟩ (jn_L_law__1835 G s23.1 s23.2 hB hC hR hX)
                                                    · refine ev_ite (fun n25 => ?_) (fun n25 => ?_)
                                                      · refine ev_tsw (c := 25) (tgt := 1919) n25 (ea_at dt_L_law__0 24 rfl) (by decide) (by decide) rfl rfl ?_
                                                        refine ev_wid (k' := 400 + Int32.toNatClampNeg s23.1) (n' := 30000 + 6 * Int32.toNatClampNeg s23.1) (show 400 + Int32.toNatClampNeg s23.1 ≤ 400 + Int32.toNatClampNeg s23.1 from by omega) (show 30000 + 6 * Int32.toNatClampNeg s23.1 ≤ 30000 + 6 * Int32.toNatClampNeg s23.1 from by omega) ?_
                                                        exact ev_drop (l' := [some (.ref 2000), some (.ref 0), some (.ref 272), some (.ref 287), some (.int s23.1), none, none]) ⟨Or.inr rfl, Or.inr rfl, Or.inr rfl, Or.inr rfl, Or.inr rfl, Or.inl rfl, Or.inl rfl, trivial⟩ (jn_L_law__1919 G s23.1 s23.2 hB hC hR hX)
                                                      · refine ev_ite (fun n26 => ?_) (fun n26 => ?_)
                                                        · refine ev_tsw (c := 26) (tgt := 1975) n26 (ea_at dt_L_law__0 24 rfl) (by decide) (by decide) rfl rfl ?_
                                                          refine ev_wid (k' := 400 + Int32.toNatClampNeg s23.1) (n' := 30000 + 6 * Int32.toNatClampNeg s23.1) (show 400 + Int32.toNatClampNeg s23.1 ≤ 400 + Int32.toNatClampNeg s23.1 from by omega) (show 30000 + 6 * Int32.toNatClampNeg s23.1 ≤ 30000 + 6 * Int32.toNatClampNeg s23.1 from by omega) ?_
                                                          exact ev_drop (l' := [some (.ref 2000), some (.ref 0), some (.ref 272), some (.ref 287), some (.int s23.1), none, none]) ⟨Or.inr rfl, Or.inr rfl, Or.inr rfl, Or.inr rfl, Or.inr rfl, Or.inl rfl, Or.inl rfl, trivial⟩ (jn_L_law__1975 G s23.1 s23.2 hB hC hR hX)
                                                        · refine ev_ite (fun n27 => ?_) (fun n27 => ?_)
                                                          · refine ev_tsw (c := 27) (tgt := 2047) n27 (ea_at dt_L_law__0 24 rfl) (by decide) (by decide) rfl rfl ?_
                                                            refine ev_wid (k' := 400 + Int32.toNatClampNeg s23.1) (n' := 30000 + 6 * Int32.toNatClampNeg s23.1) (show 400 + Int32.toNatClampNeg s23.1 ≤ 400 + Int32.toNatClampNeg s23.1 from by omega) (show 30000 + 6 * Int32.toNatClampNeg s23.1 ≤ 30000 + 6 * Int32.toNatClampNeg s23.1 from by omega) ?_
                                                            exact ev_drop (l' := [some (.ref 2000), some (.ref 0), some (.ref 272), some (.ref 287), some (.int s23.1), none, none]) ⟨Or.inr rfl, Or.inr rfl, Or.inr rfl, Or.inr rfl, Or.inr rfl, Or.inl rfl, Or.inl rfl, trivial⟩ (jn_L_law__2047 G s23.1 s23.2 hB hC hR hX)
                                                          · refine ev_ite (fun n28 => ?_) (fun n28 => ?_)
                                                            · refine ev_tsw (c := 28) (tgt := 2091) n28 (ea_at dt_L_law__0 24 rfl) (by decide) (by decide) rfl rfl ?_
                                                              refine ev_wid (k' := 400 + Int32.toNatClampNeg s23.1) (n' := 30000 + 6 * Int32.toNatClampNeg s23.1) (show 400 + Int32.toNatClampNeg s23.1 ≤ 400 + Int32.toNatClampNeg s23.1 from by omega) (show 30000 + 6 * Int32.toNatClampNeg s23.1 ≤ 30000 + 6 * Int32.toNatClampNeg s23.1 from by omega) ?_
                                                              exact ev_drop (l' := [some (.ref 2000), some (.ref 0), some (.ref 272), some (.ref 287), some (.int s23.1), none, none]) ⟨Or.inr rfl, Or.inr rfl, Or.inr rfl, Or.inr rfl, Or.inr rfl, Or.inl rfl, Or.inl rfl, trivial⟩ (jn_L_law__2091 G s23.1 s23.2 hB hC hR hX)
                                                            · refine ev_ite (fun n29 => ?_) (fun n29 => ?_)
                                                              · refine ev_tsw (c := 29) (tgt := 2159) n29 (ea_at dt_L_law__0 24 rfl) (by decide) (by decide) rfl rfl ?_
                                                                refine ev_wid (k' := 400 + Int32.toNatClampNeg s23.1) (n' := 30000 + 6 * Int32.toNatClampNeg s23.1) (show 400 + Int32.toNatClampNeg s23.1 ≤ 400 + Int32.toNatClampNeg s23.1 from by omega) (show 30000 + 6 * Int32.toNatClampNeg s23.1 ≤ 30000 + 6 * Int32.toNatClampNeg s23.1 from by omega) ?_
                                                                exact ev_drop (l' := [some (.ref 2000), some (.ref 0), some (.ref 272), some (.ref 287), some (.int s23.1), none, none]) ⟨Or.inr rfl, Or.inr rfl, Or.inr rfl, Or.inr rfl, Or.inr rfl, Or.inl rfl, Or.inl rfl, trivial⟩ (jn_L_law__2159 G s23.1 s23.2 hB hC hR hX)
                                                              · refine ev_ite (fun n30 => ?_) (fun n30 => ?_)
                                                                · refine ev_tsw (c := 30) (tgt := 2172) n30 (ea_at dt_L_law__0 24 rfl) (by decide) (by decide) rfl rfl ?_
                                                                  refine ev_wid (k' := 400 + Int32.toNatClampNeg s23.1) (n' := 30000 + 6 * Int32.toNatClampNeg s23.1) (show 400 + Int32.toNatClampNeg s23.1 ≤ 400 + Int32.toNatClampNeg s23.1 from by omega) (show 30000 + 6 * Int32.toNatClampNeg s23.1 ≤ 30000 + 6 * Int32.toNatClampNeg s23.1 from by omega) ?_
                                                                  exact ev_drop (l' := [some (.ref 2000), some (.ref 0), some (.ref 272), some (.ref 287), some (.int s23.1), none, none]) ⟨Or.inr rfl, Or.inr rfl, Or.inr rfl, Or.inr rfl, Or.inr rfl, Or.inl rfl, Or.inl rfl, trivial⟩ (jn_L_law__2172 G s23.1 s23.2 hB hC hR hX)
                                                                · refine ev_ite (fun n31 => ?_) (fun n31 => ?_)
                                                                  · refine ev_tsw (c := 31) (tgt := 2252) n31 (ea_at dt_L_law__0 24 rfl) (by decide) (by decide) rfl rfl ?_
                                                                    refine ev_wid (k' := 400 + Int32.toNatClampNeg s23.1) (n' := 30000 + 6 * Int32.toNatClampNeg s23.1) (show 400 + Int32.toNatClampNeg s23.1 ≤ 400 + Int32.toNatClampNeg s23.1 from by omega) (show 30000 + 6 * Int32.toNatClampNeg s23.1 ≤ 30000 + 6 * Int32.toNatClampNeg s23.1 from by omega) ?_
                                                                    exact ev_drop (l' := [some (.ref 2000), some (.ref 0), some (.ref 272), some (.ref 287), some (.int s23.1), none, none]) ⟨Or.inr rfl, Or.inr rfl, Or.inr rfl, Or.inr rfl, Or.inr rfl, Or.inl rfl, Or.inl rfl, trivial⟩ (jn_L_law__2252 G s23.1 s23.2 hB hC hR hX)
                                                                  · refine ev_ite (fun n32 => ?_) (fun n32 => ?_)
                                                                    · refine ev_tsw (c := 32) (tgt := 2265) n32 (ea_at dt_L_law__0 24 rfl) (by decide) (by decide) rfl rfl ?_
                                                                      refine ev_wid (k' := 400 + Int32.toNatClampNeg s23.1) (n' := 30000 + 6 * Int32.toNatClampNeg s23.1) (show 400 + Int32.toNatClampNeg s23.1 ≤ 400 + Int32.toNatClampNeg s23.1 from by omega) (show 30000 + 6 * Int32.toNatClampNeg s23.1 ≤ 30000 + 6 * Int32.toNatClampNeg s23.1 from by omega) ?_
                                                                      exact ev_drop (l' := [some (.ref 2000), some (.ref 0), some (.ref 272), some (.ref 287), some (.int s23.1), none, none]) ⟨Or.inr rfl, Or.inr rfl, Or.inr rfl, Or.inr rfl, Or.inr rfl, Or.inl rfl, Or.inl rfl, trivial⟩ (jn_L_law__2265 G s23.1 s23.2 hB hC hR hX)
                                                                    · refine ev_ite (fun n33 => ?_) (fun n33 => ?_)
                                                                      · refine ev_tsw (c := 33) (tgt := 2349) n33 (ea_at dt_L_law__0 24 rfl) (by decide) (by decide) rfl rfl ?_
                                                                        refine ev_wid (k' := 400 + Int32.toNatClampNeg s23.1) (n' := 30000 + 6 * Int32.toNatClampNeg s23.1) (show 400 + Int32.toNatClampNeg s23.1 ≤ 400 + Int32.toNatClampNeg s23.1 from by omega) (show 30000 + 6 * Int32.toNatClampNeg s23.1 ≤ 30000 + 6 * Int32.toNatClampNeg s23.1 from by omega) ?_
                                                                        exact ev_drop (l' := [some (.ref 2000), some (.ref 0), some (.ref 272), some (.ref 287), some (.int s23.1), none, none]) ⟨Or.inr rfl, Or.inr rfl, Or.inr rfl, Or.inr rfl, Or.inr rfl, Or.inl rfl, Or.inl rfl, trivial⟩ (jn_L_law__2349 G s23.1 s23.2 hB hC hR hX)
                                                                      · refine ev_ite (fun n34 => ?_) (fun n34 => ?_)
                                                                        · refine ev_tsw (c := 34) (tgt := 2362) n34 (ea_at dt_L_law__0 24 rfl) (by decide) (by decide) rfl rfl ?_
                                                                          refine ev_wid (k' := 400 + Int32.toNatClampNeg s23.1) (n' := 30000 + 6 * Int32.toNatClampNeg s23.1) (show 400 + Int32.toNatClampNeg s23.1 ≤ 400 + Int32.toNatClampNeg s23.1 from by omega) (show 30000 + 6 * Int32.toNatClampNeg s23.1 ≤ 30000 + 6 * Int32.toNatClampNeg s23.1 from by omega) ?_
                                                                          exact ev_drop (l' := [some (.ref 2000), some (.ref 0), some (.ref 272), some (.ref 287), some (.int s23.1), none, none]) ⟨Or.inr rfl, Or.inr rfl, Or.inr rfl, Or.inr rfl, Or.inr rfl, Or.inl rfl, Or.inl rfl, trivial⟩ (jn_L_law__2362 G s23.1 s23.2 hB hC hR hX)
                                                                        · refine ev_ite (fun n35 => ?_) (fun n35 => ?_)
                                                                          · refine ev_tsw (c := 35) (tgt := 2418) n35 (ea_at dt_L_law__0 24 rfl) (by decide) (by decide) rfl rfl ?_
                                                                            refine ev_wid (k' := 400 + Int32.toNatClampNeg s23.1) (n' := 30000 + 6 * Int32.toNatClampNeg s23.1) (show 400 + Int32.toNatClampNeg s23.1 ≤ 400 + Int32.toNatClampNeg s23.1 from by omega) (show 30000 + 6 * Int32.toNatClampNeg s23.1 ≤ 30000 + 6 * Int32.toNatClampNeg s23.1 from by omega) ?_
                                                                            exact ev_drop (l' := [some (.ref 2000), some (.ref 0), some (.ref 272), some (.ref 287), some (.int s23.1), none, none]) ⟨Or.inr rfl, Or.inr rfl, Or.inr rfl, Or.inr rfl, Or.inr rfl, Or.inl rfl, Or.inl rfl, trivial⟩ (jn_L_law__2418 G s23.1 s23.2 hB hC hR hX)
                                                                          · refine ev_ite (fun n36 => ?_) (fun n36 => ?_)
                                                                            · refine ev_tsw (c := 36) (tgt := 2498) n36 (ea_at dt_L_law__0 24 rfl) (by decide) (by decide) rfl rfl ?_
                                                                              refine ev_wid (k' := 400 + Int32.toNatClampNeg s23.1) (n' := 30000 + 6 * Int32.toNatClampNeg s23.1) (show 400 + Int32.toNatClampNeg s23.1 ≤ 400 + Int32.toNatClampNeg s23.1 from by omega) (show 30000 + 6 * Int32.toNatClampNeg s23.1 ≤ 30000 + 6 * Int32.toNatClampNeg s23.1 from by omega) ?_
                                                                              exact ev_drop (l' := [some (.ref 2000), some (.ref 0), some (.ref 272), some (.ref 287), some (.int s23.1), none, none]) ⟨Or.inr rfl, Or.inr rfl, Or.inr rfl, Or.inr rfl, Or.inr rfl, Or.inl rfl, Or.inl rfl, trivial⟩ (jn_L_law__2498 G s23.1 s23.2 hB hC hR hX)
                                                                            · refine ev_ite (fun n37 => ?_) (fun n37 => ?_)
                                                                              · refine ev_tsw (c := 37) (tgt := 2606) n37 (ea_at dt_L_law__0 24 rfl) (by decide) (by decide) rfl rfl ?_
                                                                                refine ev_wid (k' := 400 + Int32.toNatClampNeg s23.1) (n' := 30000 + 6 * Int32.toNatClampNeg s23.1) (show 400 + Int32.toNatClampNeg s23.1 ≤ 400 + Int32.toNatClampNeg s23.1 from by omega) (show 30000 + 6 * Int32.toNatClampNeg s23.1 ≤ 30000 + 6 * Int32.toNatClampNeg s23.1 from by omega) ?_
                                                                                exact ev_drop (l' := [some (.ref 2000), some (.ref 0), some (.ref 272), some (.ref 287), some (.int s23.1), none, none]) ⟨Or.inr rfl, Or.inr rfl, Or.inr rfl, Or.inr rfl, Or.inr rfl, Or.inl rfl, Or.inl rfl, trivial⟩ (jn_L_law__2606 G s23.1 s23.2 hB hC hR hX)
                                                                              · refine ev_ite (fun n38 => ?_) (fun n38 => ?_)
                                                                                · refine ev_tsw (c := 38) (tgt := 2690) n38 (ea_at dt_L_law__0 24 rfl) (by decide) (by decide) rfl rfl ?_
                                                                                  refine ev_wid (k' := 400 + Int32.toNatClampNeg s23.1) (n' := 30000 + 6 * Int32.toNatClampNeg s23.1) (show 400 + Int32.toNatClampNeg s23.1 ≤ 400 + Int32.toNatClampNeg s23.1 from by omega) (show 30000 + 6 * Int32.toNatClampNeg s23.1 ≤ 30000 + 6 * Int32.toNatClampNeg s23.1 from by omega) ?_
                                                                                  exact ev_drop (l' := [some (.ref 2000), some (.ref 0), some (.ref 272), some (.ref 287), some (.int s23.1), none, none]) ⟨Or.inr rfl, Or.inr rfl, Or.inr rfl, Or.inr rfl, Or.inr rfl, Or.inl rfl, Or.inl rfl, trivial⟩ (jn_L_law__2690 G s23.1 s23.2 hB hC hR hX)
                                                                                · refine ev_ite (fun n39 => ?_) (fun n39 => ?_)
                                                                                  · refine ev_tsw (c := 39) (tgt := 2758) n39 (ea_at dt_L_law__0 24 rfl) (by decide) (by decide) rfl rfl ?_
                                                                                    refine ev_wid (k' := 400 + Int32.toNatClampNeg s23.1) (n' := 30000 + 6 * Int32.toNatClampNeg s23.1) (show 400 + Int32.toNatClampNeg s23.1 ≤ 400 + Int32.toNatClampNeg s23.1 from by omega) (show 30000 + 6 * Int32.toNatClampNeg s23.1 ≤ 30000 + 6 * Int32.toNatClampNeg s23.1 from by omega) ?_
                                                                                    exact ev_drop (l' := [some (.ref 2000), some (.ref 0), some (.ref 272), some (.ref 287), some (.int s23.1), none, none]) ⟨Or.inr rfl, Or.inr rfl, Or.inr rfl, Or.inr rfl, Or.inr rfl, Or.inl rfl, Or.inl rfl, trivial⟩ (jn_L_law__2758 G s23.1 s23.2 hB hC hR hX)
                                                                                  · refine ev_ite (fun n40 => ?_) (fun n40 => ?_)
                                                                                    · refine ev_tsw (c := 40) (tgt := 2783) n40 (ea_at dt_L_law__0 24 rfl) (by decide) (by decide) rfl rfl ?_
                                                                                      refine ev_wid (k' := 400 + Int32.toNatClampNeg s23.1) (n' := 30000 + 6 * Int32.toNatClampNeg s23.1) (show 400 + Int32.toNatClampNeg s23.1 ≤ 400 + Int32.toNatClampNeg s23.1 from by omega) (show 30000 + 6 * Int32.toNatClampNeg s23.1 ≤ 30000 + 6 * Int32.toNatClampNeg s23.1 from by omega) ?_
                                                                                      exact ev_drop (l' := [some (.ref 2000), some (.ref 0), some (.ref 272), some (.ref 287), some (.int s23.1), none, none]) ⟨Or.inr rfl, Or.inr rfl, Or.inr rfl, Or.inr rfl, Or.inr rfl, Or.inl rfl, Or.inl rfl, trivial⟩ (jn_L_law__2783 G s23.1 s23.2 hB hC hR hX)
                                                                                    · refine ev_ite (fun n41 => ?_) (fun n41 => ?_)
                                                                                      · refine ev_tsw (c := 41) (tgt := 2796) n41 (ea_at dt_L_law__0 24 rfl) (by decide) (by decide) rfl rfl ?_
                                                                                        refine ev_wid (k' := 400 + Int32.toNatClampNeg s23.1) (n' := 30000 + 6 * Int32.toNatClampNeg s23.1) (show 400 + Int32.toNatClampNeg s23.1 ≤ 400 + Int32.toNatClampNeg s23.1 from by omega) (show 30000 + 6 * Int32.toNatClampNeg s23.1 ≤ 30000 + 6 * Int32.toNatClampNeg s23.1 from by omega) ?_
                                                                                        exact ev_drop (l' := [some (.ref 2000), some (.ref 0), some (.ref 272), some (.ref 287), some (.int s23.1), none, none]) ⟨Or.inr rfl, Or.inr rfl, Or.inr rfl, Or.inr rfl, Or.inr rfl, Or.inl rfl, Or.inl rfl, trivial⟩ (jn_L_law__2796 G s23.1 s23.2 hB hC hR hX)
                                                                                      · refine ev_ite (fun n42 => ?_) (fun n42 => ?_)
                                                                                        · refine ev_tsw (c := 42) (tgt := 2807) n42 (ea_at dt_L_law__0 24 rfl) (by decide) (by decide) rfl rfl ?_
                                                                                          refine ev_wid (k' := 400 + Int32.toNatClampNeg s23.1) (n' := 30000 + 6 * Int32.toNatClampNeg s23.1) (show 400 + Int32.toNatClampNeg s23.1 ≤ 400 + Int32.toNatClampNeg s23.1 from by omega) (show 30000 + 6 * Int32.toNatClampNeg s23.1 ≤ 30000 + 6 * Int32.toNatClampNeg s23.1 from by omega) ?_
                                                                                          exact ev_drop (l' := [some (.ref 2000), some (.ref 0), some (.ref 272), some (.ref 287), some (.int s23.1), none, none]) ⟨Or.inr rfl, Or.inr rfl, Or.inr rfl, Or.inr rfl, Or.inr rfl, Or.inl rfl, Or.inl rfl, trivial⟩ (jn_L_law__2807 G s23.1 s23.2 hB hC hR hX)
                                                                                        · refine ev_ite (fun n43 => ?_) (fun n43 => ?_)
                                                                                          · refine ev_tsw (c := 43) (tgt := 2820) n43 (ea_at dt_L_law__0 24 rfl) (by decide) (by decide) rfl rfl ?_
                                                                                            refine ev_wid (k' := 400 + Int32.toNatClampNeg s23.1) (n' := 30000 + 6 * Int32.toNatClampNeg s23.1) (show 400 + Int32.toNatClampNeg s23.1 ≤ 400 + Int32.toNatClampNeg s23.1 from by omega) (show 30000 + 6 * Int32.toNatClampNeg s23.1 ≤ 30000 + 6 * Int32.toNatClampNeg s23.1 from by omega) ?_
                                                                                            exact ev_drop (l' := [some (.ref 2000), some (.ref 0), some (.ref 272), some (.ref 287), some (.int s23.1), none, none]) ⟨Or.inr rfl, Or.inr rfl, Or.inr rfl, Or.inr rfl, Or.inr rfl, Or.inl rfl, Or.inl rfl, trivial⟩ (jn_L_law__2820 G s23.1 s23.2 hB hC hR hX)
                                                                                          · refine ev_tswOut (cnt := 44) (tgt := 2845) (ea_at dt_L_law__0 24 rfl) rfl (ea_nS (ea_nS (ea_nS (ea_nS (ea_nS (ea_nS (ea_nS (ea_nS (ea_nS (ea_nS (ea_nS (ea_nS (ea_nS (ea_nS (ea_nS (ea_nS (ea_nS (ea_nS (ea_nS (ea_nS (ea_nS (ea_nS (ea_nS (ea_nS (ea_nS (ea_nS (ea_nS (ea_nS (ea_nS (ea_nS (ea_nS (ea_nS (ea_nS (ea_nS (ea_nS (ea_nS (ea_nS (ea_nS (ea_nS (ea_nS (ea_nS (ea_nS (ea_nS (ea_nS (ea_nZ) (v := 0) (by decide) n0) (v := 1) (by decide) n1) (v := 2) (by decide) n2) (v := 3) (by decide) n3) (v := 4) (by decide) n4) (v := 5) (by decide) n5) (v := 6) (by decide) n6) (v := 7) (by decide) n7) (v := 8) (by decide) n8) (v := 9) (by decide) n9) (v := 10) (by decide) n10) (v := 11) (by decide) n11) (v := 12) (by decide) n12) (v := 13) (by decide) n13) (v := 14) (by decide) n14) (v := 15) (by decide) n15) (v := 16) (by decide) n16) (v := 17) (by decide) n17) (v := 18) (by decide) n18) (v := 19) (by decide) n19) (v := 20) (by decide) n20) (v := 21) (by decide) n21) (v := 22) (by decide) n22) (v := 23) (by decide) n23) (v := 24) (by decide) n24) (v := 25) (by decide) n25) (v := 26) (by decide) n26) (v := 27) (by decide) n27) (v := 28) (by decide) n28) (v := 29) (by decide) n29) (v := 30) (by decide) n30) (v := 31) (by decide) n31) (v := 32) (by decide) n32) (v := 33) (by decide) n33) (v := 34) (by decide) n34) (v := 35) (by decide) n35) (v := 36) (by decide) n36) (v := 37) (by decide) n37) (v := 38) (by decide) n38) (v := 39) (by decide) n39) (v := 40) (by decide) n40) (v := 41) (by decide) n41) (v := 42) (by decide) n42) (v := 43) (by decide) n43) rfl ?_
                                                                                            refine ev_wid (k' := 400 + Int32.toNatClampNeg s23.1 + 6) (n' := 30000 + 6 * Int32.toNatClampNeg s23.1 + 36) (show 400 + Int32.toNatClampNeg s23.1 ≤ 400 + Int32.toNatClampNeg s23.1 + 6 from by omega) (show 30000 + 6 * Int32.toNatClampNeg s23.1 ≤ 30000 + 6 * Int32.toNatClampNeg s23.1 + 36 from by omega) ?_
                                                                                            exact ev_drop (l' := [some (.ref 2000), some (.ref 0), some (.ref 272), some (.ref 287), some (.int s23.1), none, none]) ⟨Or.inr rfl, Or.inr rfl, Or.inr rfl, Or.inr rfl, Or.inr rfl, Or.inl rfl, Or.inl rfl, trivial⟩ (jn_L_law__2845 G s23.1 s23.2 hB hC hR hX)
theorem ev_law_end {G : ea_G} {m1 : ea_M} : ea_Ev G F_L_law_ (0, 1, m1) 2851 [none, none, none, none, none, none, none] [] m1 5000 60000 := by
  refine (?_ : ea_E G F_L_law_ (0, 1, m1) 2851 [none, none, none, none, none, none, none] [] m1 5000 60000 (some (1, m1)) (fun t => t = (1, m1))) (1, m1) rfl rfl
  refine ev_iconst (ea_at dt_L_law__28 49 rfl) ic_1 ?_
  exact ev_zret (by decide) (ea_at dt_L_law__28 50 rfl) rfl ⟨show 5000 ≤ 601024 from by omega, show 60000 ≤ 7293034 from by omega⟩ (fun h => by cases h; rfl)
/-- the law's body from its loop on: if the function comes to 1, the machine does -/
theorem ok_L_law_ (G : ea_G) (m mZ : ea_M) (h : f_L_law_ G m = some (1, mZ)) : ea_Ev G F_L_law_ (0, 1, mZ) 23 [some (.ref 2000), some (.ref 0), some (.ref 272), some (.ref 287), some (.int 0), none, none] [] m 400 30000 := by
  unfold f_L_law_ at h
  refine (?_ : ea_E G F_L_law_ (0, 1, mZ) 23 [some (.ref 2000), some (.ref 0), some (.ref 272), some (.ref 287), some (.int 0), none, none] [] m 400 30000 (ea_sl (ea_loop (f_L_law__s23 G) ea_fuel (0, m)) (fun t => some t) (fun x => some (1, x))) (fun t => t = (1, mZ))) (1, mZ) h rfl
  refine ev_sl (lp_L_law__23 G (fun t h => ?_) (fun x h => ?_) ea_fuel (0, m))
  · obtain ⟨t1, e1, q1⟩ := h
    cases e1
    rw [q1]
  · obtain ⟨t1, e1, q1⟩ := h
    cases e1
    cases q1
    exact ev_law_end
