
def CxS (G : GG) (κ : KK) (b Ls : Nat) (xs : Nat → Int32) : Prop := match κ with
  | (_, _, _, _, s, _, _, _, _, _, _) => va_X b Ls xs s s.heap ∧ b < s.heap.size ∧ ¬ gA G b
section
variable {G : GG} {κ : KK} {cc : ByteArray} {own : String} {ret : Option FieldType} {nL cells slots : Nat} {rm : Room} {M : Mem} {L : List (Nat × Value)} {st rest : List Value} {b Ls : Nat} {xs : Nat → Int32}
theorem V_sld (pc : Nat) (C : Cx G κ cc own ret nL rm) (S : CxS G κ b Ls xs) {i : Int32} (d : decode cc pc = .ok (.iaload, 1)) (hi : inb i Ls = true) (k : V G κ nL cells slots M (pc + 1) L (.int (xs i.toNatClampNeg) :: st)) : V G κ nL cells slots M pc L (.int i :: .ref b :: st) := by
  obtain ⟨p, l, e, R, s, m, args, below, meth, c, Q⟩ := κ
  intro H locs ls hl hP hS
  exact va_sld C.1 C.2.1 S.1 S.2.1 S.2.2 hS (inb_in hi) d (k H locs ls hl hP hS)
theorem V_slenS (pc : Nat) (C : Cx G κ cc own ret nL rm) (S : CxS G κ b Ls xs) (d : decode cc pc = .ok (.arraylength, 1)) (k : V G κ nL cells slots M (pc + 1) L (.int (nI Ls) :: st)) : V G κ nL cells slots M pc L (.ref b :: st) := by
  obtain ⟨p, l, e, R, s, m, args, below, meth, c, Q⟩ := κ
  intro H locs ls hl hP hS
  exact va_slen C.1 C.2.1 S.1 S.2.1 S.2.2 hS d (k H locs ls hl hP hS)
def fcm (x y : UInt32) : Int32 := Op.cmpValue (FP.fcmp x y) .l
theorem V_fcmpl (pc : Nat) (C : Cx G κ cc own ret nL rm) {x y : UInt32} (d : decode cc pc = .ok (.fcmp .l, 1)) (k : V G κ nL cells slots M (pc + 1) L (.int (fcm x y) :: st)) : V G κ nL cells slots M pc L (.float y :: .float x :: st) := by
  obtain ⟨p, l, e, R, s, m, args, below, meth, c, Q⟩ := κ
  intro H locs ls hl hP hS
  exact lv_fcmp C.1 C.2.1 d (k H locs ls hl hP hS)
end
section
variable {ret : Option FieldType}
def fL_law_276 (F Ls : Nat) (xs : Nat → Int32) (kx : Mem → Option Bool) (v5 : Int32) (M : Mem) : Option Bool := chk (inb (v5 + 1) Ls) (bindM (fL_addShelf F (xs ((v5 + 1)).toNatClampNeg) M) (fun r2 M3 => chk (inb (v5 + 1) Ls) (bindM (fX12_addShelf F (xs ((v5 + 1)).toNatClampNeg) M3) (fun r8 M6 => bindM (fX12_thrown F  M6) (fun r11 M9 => if r11 = r2 then if r2 = 0 then if (lcm (M9 129 0) r8) = 0 then kx M9 else some false else kx M9 else some false)))))
def fL_law_332 (F Ls : Nat) (xs : Nat → Int32) (kx : Mem → Option Bool) (v5 : Int32) (M : Mem) : Option Bool := chk (inb (v5 + 1) Ls) (chk (inb (v5 + 2) Ls) (bindM (fL_link F (xs ((v5 + 1)).toNatClampNeg) (xs ((v5 + 2)).toNatClampNeg) M) (fun r17 M18 => chk (inb (v5 + 1) Ls) (chk (inb (v5 + 2) Ls) (bindM (fX12_link F (xs ((v5 + 1)).toNatClampNeg) (xs ((v5 + 2)).toNatClampNeg) M18) (fun r24 M22 => bindM (fX12_thrown F  M22) (fun r27 M25 => if r27 = r17 then if r17 = 0 then if (lcm (M25 129 0) r24) = 0 then kx M25 else some false else kx M25 else some false)))))))
def fL_law_400 (F Ls : Nat) (xs : Nat → Int32) (kx : Mem → Option Bool) (v5 : Int32) (M : Mem) : Option Bool := chk (inb (v5 + 1) Ls) (chk (inb (v5 + 2) Ls) (bindM (fL_unlink F (xs ((v5 + 1)).toNatClampNeg) (xs ((v5 + 2)).toNatClampNeg) M) (fun r33 M34 => chk (inb (v5 + 1) Ls) (chk (inb (v5 + 2) Ls) (bindM (fX12_unlink F (xs ((v5 + 1)).toNatClampNeg) (xs ((v5 + 2)).toNatClampNeg) M34) (fun r40 M38 => bindM (fX12_thrown F  M38) (fun r43 M41 => if r43 = r33 then if r33 = 0 then if (lcm (M41 129 0) r40) = 0 then kx M41 else some false else kx M41 else some false)))))))
def fL_law_468 (F Ls : Nat) (xs : Nat → Int32) (kx : Mem → Option Bool) (v5 : Int32) (M : Mem) : Option Bool := chk (inb (v5 + 1) Ls) (chk (inb (v5 + 2) Ls) (if (xs ((v5 + 2)).toNatClampNeg) = 0 then bindM (fL_setBlind F (xs ((v5 + 1)).toNatClampNeg) false M) (fun r50 M51 => chk (inb (v5 + 1) Ls) (chk (inb (v5 + 2) Ls) (if (xs ((v5 + 2)).toNatClampNeg) = 0 then bindM (fX12_setBlind F (xs ((v5 + 1)).toNatClampNeg) false M51) (fun r58 M56 => bindM (fX12_thrown F  M56) (fun r61 M59 => if r61 = r50 then if r50 = 0 then if (lcm (M59 129 0) r58) = 0 then kx M59 else some false else kx M59 else some false)) else bindM (fX12_setBlind F (xs ((v5 + 1)).toNatClampNeg) true M51) (fun r67 M65 => bindM (fX12_thrown F  M65) (fun r70 M68 => if r70 = r50 then if r50 = 0 then if (lcm (M68 129 0) r67) = 0 then kx M68 else some false else kx M68 else some false))))) else bindM (fL_setBlind F (xs ((v5 + 1)).toNatClampNeg) true M) (fun r74 M75 => chk (inb (v5 + 1) Ls) (chk (inb (v5 + 2) Ls) (if (xs ((v5 + 2)).toNatClampNeg) = 0 then bindM (fX12_setBlind F (xs ((v5 + 1)).toNatClampNeg) false M75) (fun r82 M80 => bindM (fX12_thrown F  M80) (fun r85 M83 => if r85 = r74 then if r74 = 0 then if (lcm (M83 129 0) r82) = 0 then kx M83 else some false else kx M83 else some false)) else bindM (fX12_setBlind F (xs ((v5 + 1)).toNatClampNeg) true M75) (fun r91 M89 => bindM (fX12_thrown F  M89) (fun r94 M92 => if r94 = r74 then if r74 = 0 then if (lcm (M92 129 0) r91) = 0 then kx M92 else some false else kx M92 else some false)))))))
def fL_law_552 (F Ls : Nat) (xs : Nat → Int32) (kx : Mem → Option Bool) (v5 : Int32) (M : Mem) : Option Bool := chk (inb (v5 + 1) Ls) (chk (inb (v5 + 2) Ls) (bindM (fL_fill F (xs ((v5 + 1)).toNatClampNeg) (xs ((v5 + 2)).toNatClampNeg) M) (fun r100 M101 => chk (inb (v5 + 1) Ls) (chk (inb (v5 + 2) Ls) (bindM (fX12_fill F (xs ((v5 + 1)).toNatClampNeg) (xs ((v5 + 2)).toNatClampNeg) M101) (fun r107 M105 => bindM (fX12_thrown F  M105) (fun r110 M108 => if r110 = r100 then if r100 = 0 then if (lcm (M108 129 0) r107) = 0 then kx M108 else some false else kx M108 else some false)))))))
def fL_law_620 (F Ls : Nat) (xs : Nat → Int32) (kx : Mem → Option Bool) (v5 : Int32) (M : Mem) : Option Bool := bindM (fX11_shelfCount F  M) (fun r116 M114 => bindM (fX12_shelfCount F  M114) (fun r119 M117 => if r116 = r119 then kx M117 else some false))
def fL_law_633 (F Ls : Nat) (xs : Nat → Int32) (kx : Mem → Option Bool) (v5 : Int32) (M : Mem) : Option Bool := bindM (fX11_passageCount F  M) (fun r123 M121 => bindM (fX12_passageCount F  M121) (fun r126 M124 => if r123 = r126 then kx M124 else some false))
def fL_law_646 (F Ls : Nat) (xs : Nat → Int32) (kx : Mem → Option Bool) (v5 : Int32) (M : Mem) : Option Bool := chk (inb (v5 + 1) Ls) (bindM (fL_cheese F (xs ((v5 + 1)).toNatClampNeg) M) (fun r129 M130 => chk (inb (v5 + 1) Ls) (bindM (fX12_cheese F (xs ((v5 + 1)).toNatClampNeg) M130) (fun r135 M133 => bindM (fX12_thrown F  M133) (fun r138 M136 => if r138 = r129 then if r129 = 0 then if (lcm (M136 129 0) r135) = 0 then kx M136 else some false else kx M136 else some false)))))
def fL_law_702 (F Ls : Nat) (xs : Nat → Int32) (kx : Mem → Option Bool) (v5 : Int32) (M : Mem) : Option Bool := chk (inb (v5 + 1) Ls) (bindM (fL_isBlind F (xs ((v5 + 1)).toNatClampNeg) M) (fun r143 M144 => chk (inb (v5 + 1) Ls) (bindM (fX12_isBlind F (xs ((v5 + 1)).toNatClampNeg) M144) (fun r149 M147 => bindM (fX12_thrown F  M147) (fun r152 M150 => if r152 = r143 then if r143 = 0 then if r149 = true then if (lcm (M150 129 0) 1) = 0 then kx M150 else some false else if (lcm (M150 129 0) 0) = 0 then kx M150 else some false else kx M150 else some false)))))
def fL_law_765 (F Ls : Nat) (xs : Nat → Int32) (kx : Mem → Option Bool) (v5 : Int32) (M : Mem) : Option Bool := chk (inb (v5 + 1) Ls) (bindM (fL_neighbourCount F (xs ((v5 + 1)).toNatClampNeg) M) (fun r159 M160 => chk (inb (v5 + 1) Ls) (bindM (fX12_neighbourCount F (xs ((v5 + 1)).toNatClampNeg) M160) (fun r165 M163 => bindM (fX12_thrown F  M163) (fun r168 M166 => if r168 = r159 then if r159 = 0 then if (lcm (M166 129 0) r165) = 0 then kx M166 else some false else kx M166 else some false)))))
def fL_law_821 (F Ls : Nat) (xs : Nat → Int32) (kx : Mem → Option Bool) (v5 : Int32) (M : Mem) : Option Bool := chk (inb (v5 + 1) Ls) (chk (inb (v5 + 2) Ls) (bindM (fL_distance F (xs ((v5 + 1)).toNatClampNeg) (xs ((v5 + 2)).toNatClampNeg) M) (fun r174 M175 => chk (inb (v5 + 1) Ls) (chk (inb (v5 + 2) Ls) (bindM (fX12_distance F (xs ((v5 + 1)).toNatClampNeg) (xs ((v5 + 2)).toNatClampNeg) M175) (fun r181 M179 => bindM (fX12_thrown F  M179) (fun r184 M182 => if r184 = r174 then if r174 = 0 then if (lcm (M182 129 0) r181) = 0 then kx M182 else some false else kx M182 else some false)))))))
def fL_law_889 (F Ls : Nat) (xs : Nat → Int32) (kx : Mem → Option Bool) (v5 : Int32) (M : Mem) : Option Bool := chk (inb (v5 + 1) Ls) (chk (inb (v5 + 2) Ls) (bindM (fL_distanceByTable F (xs ((v5 + 1)).toNatClampNeg) (xs ((v5 + 2)).toNatClampNeg) M) (fun r190 M191 => chk (inb (v5 + 1) Ls) (chk (inb (v5 + 2) Ls) (bindM (fX12_distanceByTable F (xs ((v5 + 1)).toNatClampNeg) (xs ((v5 + 2)).toNatClampNeg) M191) (fun r197 M195 => bindM (fX12_thrown F  M195) (fun r200 M198 => if r200 = r190 then if r190 = 0 then if (lcm (M198 129 0) r197) = 0 then kx M198 else some false else kx M198 else some false)))))))
def fL_law_957 (F Ls : Nat) (xs : Nat → Int32) (kx : Mem → Option Bool) (v5 : Int32) (M : Mem) : Option Bool := bindM (fX11_groupCount F  M) (fun r206 M204 => bindM (fX12_groupCount F  M204) (fun r209 M207 => if r206 = r209 then kx M207 else some false))
def fL_law_970 (F Ls : Nat) (xs : Nat → Int32) (kx : Mem → Option Bool) (v5 : Int32) (M : Mem) : Option Bool := chk (inb (v5 + 1) Ls) (bindM (fL_shelfByCheese F (xs ((v5 + 1)).toNatClampNeg) M) (fun r212 M213 => chk (inb (v5 + 1) Ls) (bindM (fX12_shelfByCheese F (xs ((v5 + 1)).toNatClampNeg) M213) (fun r218 M216 => bindM (fX12_thrown F  M216) (fun r221 M219 => if r221 = r212 then if r212 = 0 then if (lcm (M219 129 0) r218) = 0 then kx M219 else some false else kx M219 else some false)))))
def fL_law_1026 (F Ls : Nat) (xs : Nat → Int32) (kx : Mem → Option Bool) (v5 : Int32) (M : Mem) : Option Bool := chk (inb (v5 + 1) Ls) (bindM (fL_addStop F (xs ((v5 + 1)).toNatClampNeg) M) (fun r226 M227 => chk (inb (v5 + 1) Ls) (bindM (fX12_addStop F (xs ((v5 + 1)).toNatClampNeg) M227) (fun r232 M230 => bindM (fX12_thrown F  M230) (fun r235 M233 => if r235 = r226 then if r226 = 0 then if (lcm (M233 129 0) r232) = 0 then kx M233 else some false else kx M233 else some false)))))
def fL_law_1082 (F Ls : Nat) (xs : Nat → Int32) (kx : Mem → Option Bool) (v5 : Int32) (M : Mem) : Option Bool := chk (inb (v5 + 1) Ls) (bindM (fL_removeStop F (xs ((v5 + 1)).toNatClampNeg) M) (fun r240 M241 => chk (inb (v5 + 1) Ls) (bindM (fX12_removeStop F (xs ((v5 + 1)).toNatClampNeg) M241) (fun r246 M244 => bindM (fX12_thrown F  M244) (fun r249 M247 => if r249 = r240 then if r240 = 0 then if (lcm (M247 129 0) r246) = 0 then kx M247 else some false else kx M247 else some false)))))
def fL_law_1138 (F Ls : Nat) (xs : Nat → Int32) (kx : Mem → Option Bool) (v5 : Int32) (M : Mem) : Option Bool := bindM (fX11_stopCount F  M) (fun r255 M253 => bindM (fX12_stopCount F  M253) (fun r258 M256 => if r255 = r258 then kx M256 else some false))
def fL_law_1151 (F Ls : Nat) (xs : Nat → Int32) (kx : Mem → Option Bool) (v5 : Int32) (M : Mem) : Option Bool := chk (inb (v5 + 1) Ls) (bindM (fL_shelfOfStop F (xs ((v5 + 1)).toNatClampNeg) M) (fun r261 M262 => chk (inb (v5 + 1) Ls) (bindM (fX12_shelfOfStop F (xs ((v5 + 1)).toNatClampNeg) M262) (fun r267 M265 => bindM (fX12_thrown F  M265) (fun r270 M268 => if r270 = r261 then if r261 = 0 then if (lcm (M268 129 0) r267) = 0 then kx M268 else some false else kx M268 else some false)))))
def fL_law_1207 (F Ls : Nat) (xs : Nat → Int32) (kx : Mem → Option Bool) (v5 : Int32) (M : Mem) : Option Bool := bindM (fL_catShelf F  M) (fun r274 M275 => bindM (fX12_catShelf F  M275) (fun r279 M277 => bindM (fX12_thrown F  M277) (fun r282 M280 => if r282 = r274 then if r274 = 0 then if (lcm (M280 129 0) r279) = 0 then kx M280 else some false else kx M280 else some false)))
def fL_law_1251 (F Ls : Nat) (xs : Nat → Int32) (kx : Mem → Option Bool) (v5 : Int32) (M : Mem) : Option Bool := bindM (fL_goal F  M) (fun r286 M287 => bindM (fX12_goal F  M287) (fun r291 M289 => bindM (fX12_thrown F  M289) (fun r294 M292 => if r294 = r286 then if r286 = 0 then if (lcm (M292 129 0) r291) = 0 then kx M292 else some false else kx M292 else some false)))
def fL_law_1295 (F Ls : Nat) (xs : Nat → Int32) (kx : Mem → Option Bool) (v5 : Int32) (M : Mem) : Option Bool := bindM (fL_nextShelf F  M) (fun r298 M299 => bindM (fX12_nextShelf F  M299) (fun r303 M301 => bindM (fX12_thrown F  M301) (fun r306 M304 => if r306 = r298 then if r298 = 0 then if (lcm (M304 129 0) r303) = 0 then kx M304 else some false else kx M304 else some false)))
def fL_law_1339 (F Ls : Nat) (xs : Nat → Int32) (kx : Mem → Option Bool) (v5 : Int32) (M : Mem) : Option Bool := bindM (fL_lapLength F  M) (fun r310 M311 => bindM (fX12_lapLength F  M311) (fun r315 M313 => bindM (fX12_thrown F  M313) (fun r318 M316 => if r318 = r310 then if r310 = 0 then if (lcm (M316 129 0) r315) = 0 then kx M316 else some false else kx M316 else some false)))
def fL_law_1383 (F Ls : Nat) (xs : Nat → Int32) (kx : Mem → Option Bool) (v5 : Int32) (M : Mem) : Option Bool := chk (inb (v5 + 1) Ls) (bindM (fL_pass F (xs ((v5 + 1)).toNatClampNeg) M) (fun r323 M324 => chk (inb (v5 + 1) Ls) (bindM (fX12_pass F (xs ((v5 + 1)).toNatClampNeg) M324) (fun r329 M327 => bindM (fX12_thrown F  M327) (fun r332 M330 => if r332 = r323 then if r323 = 0 then if (lcm (M330 129 0) r329) = 0 then kx M330 else some false else kx M330 else some false)))))
def fL_law_1439 (F Ls : Nat) (xs : Nat → Int32) (kx : Mem → Option Bool) (v5 : Int32) (M : Mem) : Option Bool := chk (inb (v5 + 1) Ls) (bindM (fL_predictCaught F (xs ((v5 + 1)).toNatClampNeg) M) (fun r337 M338 => chk (inb (v5 + 1) Ls) (bindM (fX12_predictCaught F (xs ((v5 + 1)).toNatClampNeg) M338) (fun r343 M341 => bindM (fX12_thrown F  M341) (fun r346 M344 => if r346 = r337 then if r337 = 0 then if (lcm (M344 129 0) r343) = 0 then kx M344 else some false else kx M344 else some false)))))
def fL_law_1495 (F Ls : Nat) (xs : Nat → Int32) (kx : Mem → Option Bool) (v5 : Int32) (M : Mem) : Option Bool := chk (inb (v5 + 1) Ls) (bindM (fL_setRate F (xs ((v5 + 1)).toNatClampNeg) M) (fun r351 M352 => chk (inb (v5 + 1) Ls) (bindM (fX12_setRate F (xs ((v5 + 1)).toNatClampNeg) M352) (fun r357 M355 => bindM (fX12_thrown F  M355) (fun r360 M358 => if r360 = r351 then if r351 = 0 then if (lcm (M358 129 0) r357) = 0 then kx M358 else some false else kx M358 else some false)))))
def fL_law_1551 (F Ls : Nat) (xs : Nat → Int32) (kx : Mem → Option Bool) (v5 : Int32) (M : Mem) : Option Bool := chk (inb (v5 + 1) Ls) (bindM (fL_setSeed F (xs ((v5 + 1)).toNatClampNeg) M) (fun r365 M366 => chk (inb (v5 + 1) Ls) (bindM (fX12_setSeed F (xs ((v5 + 1)).toNatClampNeg) M366) (fun r371 M369 => bindM (fX12_thrown F  M369) (fun r374 M372 => if r374 = r365 then if r365 = 0 then if (lcm (M372 129 0) r371) = 0 then kx M372 else some false else kx M372 else some false)))))
def fL_law_1607 (F Ls : Nat) (xs : Nat → Int32) (kx : Mem → Option Bool) (v5 : Int32) (M : Mem) : Option Bool := bindM (fX11_seed F  M) (fun r380 M378 => bindM (fX12_seed F  M378) (fun r383 M381 => if r380 = r383 then kx M381 else some false))
def fL_law_1620 (F Ls : Nat) (xs : Nat → Int32) (kx : Mem → Option Bool) (v5 : Int32) (M : Mem) : Option Bool := bindM (fX11_minute F  M) (fun r387 M385 => bindM (fX12_minute F  M385) (fun r390 M388 => if r387 = r390 then kx M388 else some false))
def fL_law_1633 (F Ls : Nat) (xs : Nat → Int32) (kx : Mem → Option Bool) (v5 : Int32) (M : Mem) : Option Bool := bindM (fX11_mouseCount F  M) (fun r394 M392 => bindM (fX12_mouseCount F  M392) (fun r397 M395 => if r394 = r397 then kx M395 else some false))
def fL_law_1646 (F Ls : Nat) (xs : Nat → Int32) (kx : Mem → Option Bool) (v5 : Int32) (M : Mem) : Option Bool := chk (inb (v5 + 1) Ls) (bindM (fL_mouseShelf F (xs ((v5 + 1)).toNatClampNeg) M) (fun r400 M401 => chk (inb (v5 + 1) Ls) (bindM (fX12_mouseShelf F (xs ((v5 + 1)).toNatClampNeg) M401) (fun r406 M404 => bindM (fX12_thrown F  M404) (fun r409 M407 => if r409 = r400 then if r400 = 0 then if (lcm (M407 129 0) r406) = 0 then kx M407 else some false else kx M407 else some false)))))
def fL_law_1702 (F Ls : Nat) (xs : Nat → Int32) (kx : Mem → Option Bool) (v5 : Int32) (M : Mem) : Option Bool := chk (inb (v5 + 1) Ls) (bindM (fL_mouseEaten F (xs ((v5 + 1)).toNatClampNeg) M) (fun r414 M415 => chk (inb (v5 + 1) Ls) (bindM (fX12_mouseEaten F (xs ((v5 + 1)).toNatClampNeg) M415) (fun r420 M418 => bindM (fX12_thrown F  M418) (fun r423 M421 => if r423 = r414 then if r414 = 0 then if (lcm (M421 129 0) r420) = 0 then kx M421 else some false else kx M421 else some false)))))
def fL_law_1758 (F Ls : Nat) (xs : Nat → Int32) (kx : Mem → Option Bool) (v5 : Int32) (M : Mem) : Option Bool := chk (inb (v5 + 1) Ls) (bindM (fL_mouseHunger F (xs ((v5 + 1)).toNatClampNeg) M) (fun r428 M429 => chk (inb (v5 + 1) Ls) (bindM (fX12_mouseHunger F (xs ((v5 + 1)).toNatClampNeg) M429) (fun r434 M432 => bindM (fX12_thrown F  M432) (fun r437 M435 => if r437 = r428 then if r428 = 0 then if (lcm (M435 129 0) r434) = 0 then kx M435 else some false else kx M435 else some false)))))
def fL_law_1814 (F Ls : Nat) (xs : Nat → Int32) (kx : Mem → Option Bool) (v5 : Int32) (M : Mem) : Option Bool := chk (inb (v5 + 1) Ls) (bindM (fL_miceOn F (xs ((v5 + 1)).toNatClampNeg) M) (fun r442 M443 => chk (inb (v5 + 1) Ls) (bindM (fX12_miceOn F (xs ((v5 + 1)).toNatClampNeg) M443) (fun r448 M446 => bindM (fX12_thrown F  M446) (fun r451 M449 => if r451 = r442 then if r442 = 0 then if (lcm (M449 129 0) r448) = 0 then kx M449 else some false else kx M449 else some false)))))
def fL_law_1870 (F Ls : Nat) (xs : Nat → Int32) (kx : Mem → Option Bool) (v5 : Int32) (M : Mem) : Option Bool := bindM (fX11_totalCheese F  M) (fun r457 M455 => bindM (fX12_totalCheese F  M455) (fun r460 M458 => if r457 = r460 then kx M458 else some false))
def fL_law_1883 (F Ls : Nat) (xs : Nat → Int32) (kx : Mem → Option Bool) (v5 : Int32) (M : Mem) : Option Bool := bindM (fX11_totalCheeseByAccounts F  M) (fun r464 M462 => bindM (fX12_totalCheeseByAccounts F  M462) (fun r467 M465 => if r464 = r467 then kx M465 else some false))
def fL_law_1896 (F Ls : Nat) (xs : Nat → Int32) (kx : Mem → Option Bool) (v5 : Int32) (M : Mem) : Option Bool := bindM (fX11_eaten F  M) (fun r471 M469 => bindM (fX12_eaten F  M469) (fun r474 M472 => if r471 = r474 then kx M472 else some false))
def fL_law_1909 (F Ls : Nat) (xs : Nat → Int32) (kx : Mem → Option Bool) (v5 : Int32) (M : Mem) : Option Bool := bindM (fX11_caught F  M) (fun r478 M476 => bindM (fX12_caught F  M476) (fun r481 M479 => if r478 = r481 then kx M479 else some false))
def fL_law_1922 (F Ls : Nat) (xs : Nat → Int32) (kx : Mem → Option Bool) (v5 : Int32) (M : Mem) : Option Bool := bindM (fX11_gone F  M) (fun r485 M483 => bindM (fX12_gone F  M483) (fun r488 M486 => if r485 = r488 then kx M486 else some false))
def fL_law_1935 (F Ls : Nat) (xs : Nat → Int32) (kx : Mem → Option Bool) (v5 : Int32) (M : Mem) : Option Bool := bindM (fX11_rinds F  M) (fun r492 M490 => bindM (fX12_rinds F  M490) (fun r495 M493 => if r492 = r495 then kx M493 else some false))
def fL_law_1948 (F Ls : Nat) (xs : Nat → Int32) (kx : Mem → Option Bool) (v5 : Int32) (M : Mem) : Option Bool := bindM (fL_meanCheese F  M) (fun r497 M498 => bindM (fX12_meanCheese F  M498) (fun r502 M500 => bindM (fX12_thrown F  M500) (fun r505 M503 => if r505 = r497 then if r497 = 0 then if (dcm (mk64 (M503 130 0) (M503 130 1)) r502) = 0 then kx M503 else if (dcm (mk64 (M503 130 0) (M503 130 1)) (mk64 (M503 130 0) (M503 130 1))) = 0 then some false else if (dcm r502 r502) = 0 then some false else kx M503 else kx M503 else some false)))
def fL_law_2013 (F Ls : Nat) (xs : Nat → Int32) (kx : Mem → Option Bool) (v5 : Int32) (M : Mem) : Option Bool := bindM (fL_caughtShare F  M) (fun r511 M512 => bindM (fX12_caughtShare F  M512) (fun r516 M514 => bindM (fX12_thrown F  M514) (fun r519 M517 => if r519 = r511 then if r511 = 0 then chk (nn64 (FP.f2d r516)) (if (dcm (mk64 (M517 130 0) (M517 130 1)) (FP.f2d r516)) = 0 then kx M517 else if (dcm (mk64 (M517 130 0) (M517 130 1)) (mk64 (M517 130 0) (M517 130 1))) = 0 then some false else if (fcm r516 r516) = 0 then some false else kx M517) else kx M517 else some false)))
def fL_law_2079 (F Ls : Nat) (xs : Nat → Int32) (kx : Mem → Option Bool) (v5 : Int32) (M : Mem) : Option Bool := chk (inb (v5 + 1) Ls) (bindM (fL_feed F (i2c (xs ((v5 + 1)).toNatClampNeg)) M) (fun r527 M528 => chk (inb (v5 + 1) Ls) (bindM (fX12_feed F (i2c (xs ((v5 + 1)).toNatClampNeg)) M528) (fun r533 M531 => bindM (fX12_thrown F  M531) (fun r536 M534 => if r536 = r527 then if r527 = 0 then if (lcm (M534 129 0) r533) = 0 then kx M534 else some false else kx M534 else some false)))))
def fL_law_2137 (F Ls : Nat) (xs : Nat → Int32) (kx : Mem → Option Bool) (v5 : Int32) (M : Mem) : Option Bool := bindM (fL_execute F  M) (fun r540 M541 => bindM (fX12_execute F  M541) (fun r545 M543 => bindM (fX12_thrown F  M543) (fun r548 M546 => if r548 = r540 then if r540 = 0 then if (lcm (M546 129 0) r545) = 0 then kx M546 else some false else kx M546 else some false)))
def fL_law_2181 (F Ls : Nat) (xs : Nat → Int32) (kx : Mem → Option Bool) (v5 : Int32) (M : Mem) : Option Bool := bindM (fL_faultPosition F  M) (fun r552 M553 => bindM (fX12_faultPosition F  M553) (fun r557 M555 => bindM (fX12_thrown F  M555) (fun r560 M558 => if r560 = r552 then if r552 = 0 then if (lcm (M558 129 0) r557) = 0 then kx M558 else some false else kx M558 else some false)))
def fL_law_2225 (F Ls : Nat) (xs : Nat → Int32) (kx : Mem → Option Bool) (v5 : Int32) (M : Mem) : Option Bool := chk (inb (v5 + 1) Ls) (bindM (fL_writeShelf F (xs ((v5 + 1)).toNatClampNeg) M) (fun r565 M566 => chk (inb (v5 + 1) Ls) (bindM (fX12_writeShelf F (xs ((v5 + 1)).toNatClampNeg) M566) (fun r571 M569 => bindM (fX12_thrown F  M569) (fun r574 M572 => if r574 = r565 then if r565 = 0 then if (lcm (M572 129 0) r571) = 0 then kx M572 else some false else kx M572 else some false)))))
def fL_law_2281 (F Ls : Nat) (xs : Nat → Int32) (kx : Mem → Option Bool) (v5 : Int32) (M : Mem) : Option Bool := bindM (fX11_writePatrol F  M) (fun r580 M578 => bindM (fX12_writePatrol F  M578) (fun r583 M581 => if r580 = r583 then kx M581 else some false))
def fL_law_2294 (F Ls : Nat) (xs : Nat → Int32) (kx : Mem → Option Bool) (v5 : Int32) (M : Mem) : Option Bool := chk (inb (v5 + 1) Ls) (bindM (fL_lineCharacter F (xs ((v5 + 1)).toNatClampNeg) M) (fun r586 M587 => chk (inb (v5 + 1) Ls) (bindM (fX12_lineCharacter F (xs ((v5 + 1)).toNatClampNeg) M587) (fun r592 M590 => bindM (fX12_thrown F  M590) (fun r595 M593 => if r595 = r586 then if r586 = 0 then if (lcm (M593 129 0) r592) = 0 then kx M593 else some false else kx M593 else some false)))))
def fL_law_2350 (F Ls : Nat) (xs : Nat → Int32) (kx : Mem → Option Bool) (v5 : Int32) (M : Mem) : Option Bool := bindM (fL_denial F  M) (fun r599 M600 => bindM (fX12_denial F  M600) (fun r604 M602 => bindM (fX12_thrown F  M602) (fun r607 M605 => if r607 = r599 then if r599 = 0 then if (lcm (M605 129 0) r604) = 0 then kx M605 else some false else kx M605 else some false)))
def fL_law_2394 (F Ls : Nat) (xs : Nat → Int32) (kx : Mem → Option Bool) (v5 : Int32) (M : Mem) : Option Bool := bindM (fL_denialDetail F  M) (fun r611 M612 => bindM (fX12_denialDetail F  M612) (fun r616 M614 => bindM (fX12_thrown F  M614) (fun r619 M617 => if r619 = r611 then if r611 = 0 then if (lcm (M617 129 0) r616) = 0 then kx M617 else some false else kx M617 else some false)))
def fL_law_2438 (F Ls : Nat) (xs : Nat → Int32) (kx : Mem → Option Bool) (v5 : Int32) (M : Mem) : Option Bool := bindM (fL_denialCause F  M) (fun r623 M624 => bindM (fX12_denialCause F  M624) (fun r628 M626 => bindM (fX12_thrown F  M626) (fun r631 M629 => if r631 = r623 then if r623 = 0 then if (lcm (M629 129 0) r628) = 0 then kx M629 else some false else kx M629 else some false)))
def fL_law_2482 (F Ls : Nat) (xs : Nat → Int32) (kx : Mem → Option Bool) (v5 : Int32) (M : Mem) : Option Bool := bindM (fL_undo F  M) (fun r635 M636 => bindM (fX12_undo F  M636) (fun r640 M638 => bindM (fX12_thrown F  M638) (fun r643 M641 => if r643 = r635 then if r635 = 0 then if (lcm (M641 129 0) r640) = 0 then kx M641 else some false else kx M641 else some false)))
def fL_law_2526 (F Ls : Nat) (xs : Nat → Int32) (kx : Mem → Option Bool) (v5 : Int32) (M : Mem) : Option Bool := bindM (fX11_undoCount F  M) (fun r649 M647 => bindM (fX12_undoCount F  M647) (fun r652 M650 => if r649 = r652 then kx M650 else some false))
def fL_law_2539 (F Ls : Nat) (xs : Nat → Int32) (kx : Mem → Option Bool) (v5 : Int32) (M : Mem) : Option Bool := bindM (fX11_saveSnapshot F  M) (fun r656 M654 => bindM (fX12_saveSnapshot F  M654) (fun r659 M657 => if r656 = r659 then kx M657 else some false))
def fL_law_2552 (F Ls : Nat) (xs : Nat → Int32) (kx : Mem → Option Bool) (v5 : Int32) (M : Mem) : Option Bool := bindM (fL_restoreSnapshot F  M) (fun r661 M662 => bindM (fX12_restoreSnapshot F  M662) (fun r666 M664 => bindM (fX12_thrown F  M664) (fun r669 M667 => if r669 = r661 then if r661 = 0 then if (lcm (M667 129 0) r666) = 0 then kx M667 else some false else kx M667 else some false)))
set_option maxHeartbeats 4000000 in
theorem vL_law_276 {G : GG} {κ : KK} {F b Ls : Nat} {xs : Nat → Int32} (C : Cx G κ cL_law "LarderPatrolLaw" ret 9 room_1) (S : CxS G κ b Ls xs) (T : κ.2.1.stackTraces = false) {c9 s9 : Nat} (hc : c9 + 3 ≤ 603072) (hs : s9 + 18 ≤ 7182442) {v5 : Int32} {kx : Mem → Option Bool} (hk : ∀ M : Mem, kx M = some true → V G κ 9 (c9 + 3) (s9 + 18) M 2596 [(0, .ref b), (1, .ref (gad G 0)), (2, .ref (gad G 119)), (3, .ref (gad G 129)), (4, .ref (gad G 130)), (5, .int v5)] []) : ∀ M : Mem, fL_law_276 F Ls xs kx v5 M = some true → V G κ 9 c9 s9 M 276 [(0, .ref b), (1, .ref (gad G 0)), (2, .ref (gad G 119)), (3, .ref (gad G 129)), (4, .ref (gad G 130)), (5, .int v5)] [] := by
  intro M h
  unfold fL_law_276 at h
  refine V_wide (Nat.le_refl (c9 + 0)) (Nat.le_refl (s9 + 0)) ?_
  refine V_aload_n 276 C 1 dL_law_276 rfl ?_
  refine V_aload_n 277 C 0 dL_law_277 rfl ?_
  refine V_iload 278 C 5 dL_law_278 rfl ?_
  refine V_iconst 280 C dL_law_280 ic1 ?_
  refine V_iadd 281 C dL_law_281 ?_
  obtain ⟨c1, h⟩ := chk_some h
  refine V_sld 282 C S dL_law_282 c1 ?_
  refine V_aload_n 283 C 3 dL_law_283 rfl ?_
  obtain ⟨r2, M3, k4, h⟩ := bindM_some h
  refine V_callH (mc := 1) (ms := 6) (rest := []) 284 C (kL_addShelf T k4) ch_L_addShelf wk_2_197 rfl rfl dL_law_284 rfl rfl (show c9 + _ + _ ≤ 603072 by omega) (show s9 + _ + _ ≤ 7182442 by omega) ?_
  refine V_istore 287 C [(6, .int r2), (0, .ref b), (1, .ref (gad G 0)), (2, .ref (gad G 119)), (3, .ref (gad G 129)), (4, .ref (gad G 130)), (5, .int v5)] dL_law_287 rfl rfl ?_
  refine V_aload_n 289 C 3 dL_law_289 rfl ?_
  refine V_aload_n 290 C 1 dL_law_290 rfl ?_
  refine V_iload 291 C 6 dL_law_291 rfl ?_
  refine V_iconst 293 C dL_law_293 ic1 ?_
  refine V_iadd 294 C dL_law_294 ?_
  obtain ⟨c5, h⟩ := chk_some h
  refine V_sld 295 C S dL_law_295 c5 ?_
  obtain ⟨r8, M6, k7, h⟩ := bindM_some h
  refine V_callI 296 (runVO (k := 119) (rest := []) 296 C (kX12_addShelf  k7) cf_X12_addShelf wk_6_207 (ltl (by rfl) rfl) (ceR_X12 (by rfl)) rfl rfl rfl rfl dL_law_296 rfl rfl (show c9 + _ ≤ 603072 by omega) (show s9 + _ ≤ 7182442 by omega)) ?_
  refine V_istore 299 C [(7, .int r8), (6, .int r2), (0, .ref b), (1, .ref (gad G 0)), (2, .ref (gad G 119)), (3, .ref (gad G 129)), (4, .ref (gad G 130)), (5, .int v5)] dL_law_299 rfl rfl ?_
  refine V_aload_n 301 C 4 dL_law_301 rfl ?_
  obtain ⟨r11, M9, k10, h⟩ := bindM_some h
  refine V_callI 302 (runVO (k := 119) (rest := []) 302 C (kX12_thrown  k10) cf_X12_thrown wk_6_124 (ltl (by rfl) rfl) (ceR_X12 (by rfl)) rfl rfl rfl rfl dL_law_302 rfl rfl (show c9 + _ ≤ 603072 by omega) (show s9 + _ ≤ 7182442 by omega)) ?_
  refine V_iload 305 C 1 dL_law_305 rfl ?_
  refine V_icmp_eq 307 312 C dL_law_307 (by decide) (fun c12 => ?_) (fun c12 => ?_)
  · replace h := ite_t c12 h
    refine V_iload 312 C 1 dL_law_312 rfl ?_
    refine V_if_ne 314 329 C dL_law_314 (by decide) (fun c13 => ?_) (fun c13 => ?_)
    · replace h := ite_f c13 h
      refine V_goto 329 2596 C dL_law_329 (by decide) ?_
      refine V_sub [2, 3, 4, 5, 6, 7] rfl ?_
      exact V_wide (by omega) (by omega) (hk _ h)
    · replace h := ite_t c13 h
      refine V_aload_n 317 C 5 dL_law_317 rfl ?_
      refine V_iconst 318 C dL_law_318 ic0 ?_
      refine V_lald 319 C dL_law_319 (by rfl) ?_
      refine V_iload 320 C 0 dL_law_320 rfl ?_
      refine V_i2l 322 C dL_law_322 ?_
      refine V_lcmp 323 C dL_law_323 ?_
      refine V_if_eq 324 329 C dL_law_324 (by decide) (fun c14 => ?_) (fun c14 => ?_)
      · replace h := ite_t c14 h
        refine V_goto 329 2596 C dL_law_329 (by decide) ?_
        refine V_sub [2, 3, 4, 5, 6, 7] rfl ?_
        exact V_wide (by omega) (by omega) (hk _ h)
      · replace h := ite_f c14 h
        refine V_iconst 327 C dL_law_327 ic0 ?_
        cases h
  · replace h := ite_f c12 h
    refine V_iconst 310 C dL_law_310 ic0 ?_
    cases h
set_option maxHeartbeats 4000000 in
theorem vL_law_332 {G : GG} {κ : KK} {F b Ls : Nat} {xs : Nat → Int32} (C : Cx G κ cL_law "LarderPatrolLaw" ret 9 room_1) (S : CxS G κ b Ls xs) (T : κ.2.1.stackTraces = false) {c9 s9 : Nat} (hc : c9 + 3 ≤ 603072) (hs : s9 + 18 ≤ 7182442) {v5 : Int32} {kx : Mem → Option Bool} (hk : ∀ M : Mem, kx M = some true → V G κ 9 (c9 + 3) (s9 + 18) M 2596 [(0, .ref b), (1, .ref (gad G 0)), (2, .ref (gad G 119)), (3, .ref (gad G 129)), (4, .ref (gad G 130)), (5, .int v5)] []) : ∀ M : Mem, fL_law_332 F Ls xs kx v5 M = some true → V G κ 9 c9 s9 M 332 [(0, .ref b), (1, .ref (gad G 0)), (2, .ref (gad G 119)), (3, .ref (gad G 129)), (4, .ref (gad G 130)), (5, .int v5)] [] := by
  intro M h
  unfold fL_law_332 at h
  refine V_wide (Nat.le_refl (c9 + 0)) (Nat.le_refl (s9 + 0)) ?_
  refine V_aload_n 332 C 1 dL_law_332 rfl ?_
  refine V_aload_n 333 C 0 dL_law_333 rfl ?_
  refine V_iload 334 C 5 dL_law_334 rfl ?_
  refine V_iconst 336 C dL_law_336 ic1 ?_
  refine V_iadd 337 C dL_law_337 ?_
  obtain ⟨c15, h⟩ := chk_some h
  refine V_sld 338 C S dL_law_338 c15 ?_
  refine V_aload_n 339 C 0 dL_law_339 rfl ?_
  refine V_iload 340 C 5 dL_law_340 rfl ?_
  refine V_iconst 342 C dL_law_342 ic2 ?_
  refine V_iadd 343 C dL_law_343 ?_
  obtain ⟨c16, h⟩ := chk_some h
  refine V_sld 344 C S dL_law_344 c16 ?_
  refine V_aload_n 345 C 3 dL_law_345 rfl ?_
  obtain ⟨r17, M18, k19, h⟩ := bindM_some h
  refine V_callH (mc := 1) (ms := 6) (rest := []) 346 C (kL_link T k19) ch_L_link wk_4_52 rfl rfl dL_law_346 rfl rfl (show c9 + _ + _ ≤ 603072 by omega) (show s9 + _ + _ ≤ 7182442 by omega) ?_
  refine V_istore 349 C [(6, .int r17), (0, .ref b), (1, .ref (gad G 0)), (2, .ref (gad G 119)), (3, .ref (gad G 129)), (4, .ref (gad G 130)), (5, .int v5)] dL_law_349 rfl rfl ?_
  refine V_aload_n 351 C 3 dL_law_351 rfl ?_
  refine V_aload_n 352 C 1 dL_law_352 rfl ?_
  refine V_iload 353 C 6 dL_law_353 rfl ?_
  refine V_iconst 355 C dL_law_355 ic1 ?_
  refine V_iadd 356 C dL_law_356 ?_
  obtain ⟨c20, h⟩ := chk_some h
  refine V_sld 357 C S dL_law_357 c20 ?_
  refine V_aload_n 358 C 1 dL_law_358 rfl ?_
  refine V_iload 359 C 6 dL_law_359 rfl ?_
  refine V_iconst 361 C dL_law_361 ic2 ?_
  refine V_iadd 362 C dL_law_362 ?_
  obtain ⟨c21, h⟩ := chk_some h
  refine V_sld 363 C S dL_law_363 c21 ?_
  obtain ⟨r24, M22, k23, h⟩ := bindM_some h
  refine V_callI 364 (runVO (k := 119) (rest := []) 364 C (kX12_link  k23) cf_X12_link wk_7_6 (ltl (by rfl) rfl) (ceR_X12 (by rfl)) rfl rfl rfl rfl dL_law_364 rfl rfl (show c9 + _ ≤ 603072 by omega) (show s9 + _ ≤ 7182442 by omega)) ?_
  refine V_istore 367 C [(7, .int r24), (6, .int r17), (0, .ref b), (1, .ref (gad G 0)), (2, .ref (gad G 119)), (3, .ref (gad G 129)), (4, .ref (gad G 130)), (5, .int v5)] dL_law_367 rfl rfl ?_
  refine V_aload_n 369 C 4 dL_law_369 rfl ?_
  obtain ⟨r27, M25, k26, h⟩ := bindM_some h
  refine V_callI 370 (runVO (k := 119) (rest := []) 370 C (kX12_thrown  k26) cf_X12_thrown wk_6_124 (ltl (by rfl) rfl) (ceR_X12 (by rfl)) rfl rfl rfl rfl dL_law_370 rfl rfl (show c9 + _ ≤ 603072 by omega) (show s9 + _ ≤ 7182442 by omega)) ?_
  refine V_iload 373 C 1 dL_law_373 rfl ?_
  refine V_icmp_eq 375 380 C dL_law_375 (by decide) (fun c28 => ?_) (fun c28 => ?_)
  · replace h := ite_t c28 h
    refine V_iload 380 C 1 dL_law_380 rfl ?_
    refine V_if_ne 382 397 C dL_law_382 (by decide) (fun c29 => ?_) (fun c29 => ?_)
    · replace h := ite_f c29 h
      refine V_goto 397 2596 C dL_law_397 (by decide) ?_
      refine V_sub [2, 3, 4, 5, 6, 7] rfl ?_
      exact V_wide (by omega) (by omega) (hk _ h)
    · replace h := ite_t c29 h
      refine V_aload_n 385 C 5 dL_law_385 rfl ?_
      refine V_iconst 386 C dL_law_386 ic0 ?_
      refine V_lald 387 C dL_law_387 (by rfl) ?_
      refine V_iload 388 C 0 dL_law_388 rfl ?_
      refine V_i2l 390 C dL_law_390 ?_
      refine V_lcmp 391 C dL_law_391 ?_
      refine V_if_eq 392 397 C dL_law_392 (by decide) (fun c30 => ?_) (fun c30 => ?_)
      · replace h := ite_t c30 h
        refine V_goto 397 2596 C dL_law_397 (by decide) ?_
        refine V_sub [2, 3, 4, 5, 6, 7] rfl ?_
        exact V_wide (by omega) (by omega) (hk _ h)
      · replace h := ite_f c30 h
        refine V_iconst 395 C dL_law_395 ic0 ?_
        cases h
  · replace h := ite_f c28 h
    refine V_iconst 378 C dL_law_378 ic0 ?_
    cases h
set_option maxHeartbeats 4000000 in
theorem vL_law_400 {G : GG} {κ : KK} {F b Ls : Nat} {xs : Nat → Int32} (C : Cx G κ cL_law "LarderPatrolLaw" ret 9 room_1) (S : CxS G κ b Ls xs) (T : κ.2.1.stackTraces = false) {c9 s9 : Nat} (hc : c9 + 3 ≤ 603072) (hs : s9 + 18 ≤ 7182442) {v5 : Int32} {kx : Mem → Option Bool} (hk : ∀ M : Mem, kx M = some true → V G κ 9 (c9 + 3) (s9 + 18) M 2596 [(0, .ref b), (1, .ref (gad G 0)), (2, .ref (gad G 119)), (3, .ref (gad G 129)), (4, .ref (gad G 130)), (5, .int v5)] []) : ∀ M : Mem, fL_law_400 F Ls xs kx v5 M = some true → V G κ 9 c9 s9 M 400 [(0, .ref b), (1, .ref (gad G 0)), (2, .ref (gad G 119)), (3, .ref (gad G 129)), (4, .ref (gad G 130)), (5, .int v5)] [] := by
  intro M h
  unfold fL_law_400 at h
  refine V_wide (Nat.le_refl (c9 + 0)) (Nat.le_refl (s9 + 0)) ?_
  refine V_aload_n 400 C 1 dL_law_400 rfl ?_
  refine V_aload_n 401 C 0 dL_law_401 rfl ?_
  refine V_iload 402 C 5 dL_law_402 rfl ?_
  refine V_iconst 404 C dL_law_404 ic1 ?_
  refine V_iadd 405 C dL_law_405 ?_
  obtain ⟨c31, h⟩ := chk_some h
  refine V_sld 406 C S dL_law_406 c31 ?_
  refine V_aload_n 407 C 0 dL_law_407 rfl ?_
  refine V_iload 408 C 5 dL_law_408 rfl ?_
  refine V_iconst 410 C dL_law_410 ic2 ?_
  refine V_iadd 411 C dL_law_411 ?_
  obtain ⟨c32, h⟩ := chk_some h
  refine V_sld 412 C S dL_law_412 c32 ?_
  refine V_aload_n 413 C 3 dL_law_413 rfl ?_
  obtain ⟨r33, M34, k35, h⟩ := bindM_some h
  refine V_callH (mc := 1) (ms := 6) (rest := []) 414 C (kL_unlink T k35) ch_L_unlink wk_4_82 rfl rfl dL_law_414 rfl rfl (show c9 + _ + _ ≤ 603072 by omega) (show s9 + _ + _ ≤ 7182442 by omega) ?_
  refine V_istore 417 C [(6, .int r33), (0, .ref b), (1, .ref (gad G 0)), (2, .ref (gad G 119)), (3, .ref (gad G 129)), (4, .ref (gad G 130)), (5, .int v5)] dL_law_417 rfl rfl ?_
  refine V_aload_n 419 C 3 dL_law_419 rfl ?_
  refine V_aload_n 420 C 1 dL_law_420 rfl ?_
  refine V_iload 421 C 6 dL_law_421 rfl ?_
  refine V_iconst 423 C dL_law_423 ic1 ?_
  refine V_iadd 424 C dL_law_424 ?_
  obtain ⟨c36, h⟩ := chk_some h
  refine V_sld 425 C S dL_law_425 c36 ?_
  refine V_aload_n 426 C 1 dL_law_426 rfl ?_
  refine V_iload 427 C 6 dL_law_427 rfl ?_
  refine V_iconst 429 C dL_law_429 ic2 ?_
  refine V_iadd 430 C dL_law_430 ?_
  obtain ⟨c37, h⟩ := chk_some h
  refine V_sld 431 C S dL_law_431 c37 ?_
  obtain ⟨r40, M38, k39, h⟩ := bindM_some h
  refine V_callI 432 (runVO (k := 119) (rest := []) 432 C (kX12_unlink  k39) cf_X12_unlink wk_7_30 (ltl (by rfl) rfl) (ceR_X12 (by rfl)) rfl rfl rfl rfl dL_law_432 rfl rfl (show c9 + _ ≤ 603072 by omega) (show s9 + _ ≤ 7182442 by omega)) ?_
  refine V_istore 435 C [(7, .int r40), (6, .int r33), (0, .ref b), (1, .ref (gad G 0)), (2, .ref (gad G 119)), (3, .ref (gad G 129)), (4, .ref (gad G 130)), (5, .int v5)] dL_law_435 rfl rfl ?_
  refine V_aload_n 437 C 4 dL_law_437 rfl ?_
  obtain ⟨r43, M41, k42, h⟩ := bindM_some h
  refine V_callI 438 (runVO (k := 119) (rest := []) 438 C (kX12_thrown  k42) cf_X12_thrown wk_6_124 (ltl (by rfl) rfl) (ceR_X12 (by rfl)) rfl rfl rfl rfl dL_law_438 rfl rfl (show c9 + _ ≤ 603072 by omega) (show s9 + _ ≤ 7182442 by omega)) ?_
  refine V_iload 441 C 1 dL_law_441 rfl ?_
  refine V_icmp_eq 443 448 C dL_law_443 (by decide) (fun c44 => ?_) (fun c44 => ?_)
  · replace h := ite_t c44 h
    refine V_iload 448 C 1 dL_law_448 rfl ?_
    refine V_if_ne 450 465 C dL_law_450 (by decide) (fun c45 => ?_) (fun c45 => ?_)
    · replace h := ite_f c45 h
      refine V_goto 465 2596 C dL_law_465 (by decide) ?_
      refine V_sub [2, 3, 4, 5, 6, 7] rfl ?_
      exact V_wide (by omega) (by omega) (hk _ h)
    · replace h := ite_t c45 h
      refine V_aload_n 453 C 5 dL_law_453 rfl ?_
      refine V_iconst 454 C dL_law_454 ic0 ?_
      refine V_lald 455 C dL_law_455 (by rfl) ?_
      refine V_iload 456 C 0 dL_law_456 rfl ?_
      refine V_i2l 458 C dL_law_458 ?_
      refine V_lcmp 459 C dL_law_459 ?_
      refine V_if_eq 460 465 C dL_law_460 (by decide) (fun c46 => ?_) (fun c46 => ?_)
      · replace h := ite_t c46 h
        refine V_goto 465 2596 C dL_law_465 (by decide) ?_
        refine V_sub [2, 3, 4, 5, 6, 7] rfl ?_
        exact V_wide (by omega) (by omega) (hk _ h)
      · replace h := ite_f c46 h
        refine V_iconst 463 C dL_law_463 ic0 ?_
        cases h
  · replace h := ite_f c44 h
    refine V_iconst 446 C dL_law_446 ic0 ?_
    cases h
set_option maxHeartbeats 4000000 in
theorem vL_law_468 {G : GG} {κ : KK} {F b Ls : Nat} {xs : Nat → Int32} (C : Cx G κ cL_law "LarderPatrolLaw" ret 9 room_1) (S : CxS G κ b Ls xs) (T : κ.2.1.stackTraces = false) {c9 s9 : Nat} (hc : c9 + 3 ≤ 603072) (hs : s9 + 18 ≤ 7182442) {v5 : Int32} {kx : Mem → Option Bool} (hk : ∀ M : Mem, kx M = some true → V G κ 9 (c9 + 3) (s9 + 18) M 2596 [(0, .ref b), (1, .ref (gad G 0)), (2, .ref (gad G 119)), (3, .ref (gad G 129)), (4, .ref (gad G 130)), (5, .int v5)] []) : ∀ M : Mem, fL_law_468 F Ls xs kx v5 M = some true → V G κ 9 c9 s9 M 468 [(0, .ref b), (1, .ref (gad G 0)), (2, .ref (gad G 119)), (3, .ref (gad G 129)), (4, .ref (gad G 130)), (5, .int v5)] [] := by
  intro M h
  unfold fL_law_468 at h
  refine V_wide (Nat.le_refl (c9 + 0)) (Nat.le_refl (s9 + 0)) ?_
  refine V_aload_n 468 C 1 dL_law_468 rfl ?_
  refine V_aload_n 469 C 0 dL_law_469 rfl ?_
  refine V_iload 470 C 5 dL_law_470 rfl ?_
  refine V_iconst 472 C dL_law_472 ic1 ?_
  refine V_iadd 473 C dL_law_473 ?_
  obtain ⟨c47, h⟩ := chk_some h
  refine V_sld 474 C S dL_law_474 c47 ?_
  refine V_aload_n 475 C 0 dL_law_475 rfl ?_
  refine V_iload 476 C 5 dL_law_476 rfl ?_
  refine V_iconst 478 C dL_law_478 ic2 ?_
  refine V_iadd 479 C dL_law_479 ?_
  obtain ⟨c48, h⟩ := chk_some h
  refine V_sld 480 C S dL_law_480 c48 ?_
  refine V_if_eq 481 488 C dL_law_481 (by decide) (fun c49 => ?_) (fun c49 => ?_)
  · replace h := ite_t c49 h
    refine V_iconst 488 C dL_law_488 ic0 ?_
    refine V_aload_n 489 C 3 dL_law_489 rfl ?_
    obtain ⟨r50, M51, k52, h⟩ := bindM_some h
    refine V_callH (mc := 1) (ms := 6) (rest := []) 490 C (kL_setBlind T k52) ch_L_setBlind wk_4_91 rfl rfl dL_law_490 rfl rfl (show c9 + _ + _ ≤ 603072 by omega) (show s9 + _ + _ ≤ 7182442 by omega) ?_
    refine V_istore 493 C [(6, .int r50), (0, .ref b), (1, .ref (gad G 0)), (2, .ref (gad G 119)), (3, .ref (gad G 129)), (4, .ref (gad G 130)), (5, .int v5)] dL_law_493 rfl rfl ?_
    refine V_aload_n 495 C 3 dL_law_495 rfl ?_
    refine V_aload_n 496 C 1 dL_law_496 rfl ?_
    refine V_iload 497 C 6 dL_law_497 rfl ?_
    refine V_iconst 499 C dL_law_499 ic1 ?_
    refine V_iadd 500 C dL_law_500 ?_
    obtain ⟨c53, h⟩ := chk_some h
    refine V_sld 501 C S dL_law_501 c53 ?_
    refine V_aload_n 502 C 1 dL_law_502 rfl ?_
    refine V_iload 503 C 6 dL_law_503 rfl ?_
    refine V_iconst 505 C dL_law_505 ic2 ?_
    refine V_iadd 506 C dL_law_506 ?_
    obtain ⟨c54, h⟩ := chk_some h
    refine V_sld 507 C S dL_law_507 c54 ?_
    refine V_if_eq 508 515 C dL_law_508 (by decide) (fun c55 => ?_) (fun c55 => ?_)
    · replace h := ite_t c55 h
      refine V_iconst 515 C dL_law_515 ic0 ?_
      obtain ⟨r58, M56, k57, h⟩ := bindM_some h
      refine V_callI 516 (runVO (k := 119) (rest := []) 516 C (kX12_setBlind  k57) cf_X12_setBlind wk_7_42 (ltl (by rfl) rfl) (ceR_X12 (by rfl)) rfl rfl rfl rfl dL_law_516 rfl rfl (show c9 + _ ≤ 603072 by omega) (show s9 + _ ≤ 7182442 by omega)) ?_
      refine V_istore 519 C [(7, .int r58), (6, .int r50), (0, .ref b), (1, .ref (gad G 0)), (2, .ref (gad G 119)), (3, .ref (gad G 129)), (4, .ref (gad G 130)), (5, .int v5)] dL_law_519 rfl rfl ?_
      refine V_aload_n 521 C 4 dL_law_521 rfl ?_
      obtain ⟨r61, M59, k60, h⟩ := bindM_some h
      refine V_callI 522 (runVO (k := 119) (rest := []) 522 C (kX12_thrown  k60) cf_X12_thrown wk_6_124 (ltl (by rfl) rfl) (ceR_X12 (by rfl)) rfl rfl rfl rfl dL_law_522 rfl rfl (show c9 + _ ≤ 603072 by omega) (show s9 + _ ≤ 7182442 by omega)) ?_
      refine V_iload 525 C 1 dL_law_525 rfl ?_
      refine V_icmp_eq 527 532 C dL_law_527 (by decide) (fun c62 => ?_) (fun c62 => ?_)
      · replace h := ite_t c62 h
        refine V_iload 532 C 1 dL_law_532 rfl ?_
        refine V_if_ne 534 549 C dL_law_534 (by decide) (fun c63 => ?_) (fun c63 => ?_)
        · replace h := ite_f c63 h
          refine V_goto 549 2596 C dL_law_549 (by decide) ?_
          refine V_sub [2, 3, 4, 5, 6, 7] rfl ?_
          exact V_wide (by omega) (by omega) (hk _ h)
        · replace h := ite_t c63 h
          refine V_aload_n 537 C 5 dL_law_537 rfl ?_
          refine V_iconst 538 C dL_law_538 ic0 ?_
          refine V_lald 539 C dL_law_539 (by rfl) ?_
          refine V_iload 540 C 0 dL_law_540 rfl ?_
          refine V_i2l 542 C dL_law_542 ?_
          refine V_lcmp 543 C dL_law_543 ?_
          refine V_if_eq 544 549 C dL_law_544 (by decide) (fun c64 => ?_) (fun c64 => ?_)
          · replace h := ite_t c64 h
            refine V_goto 549 2596 C dL_law_549 (by decide) ?_
            refine V_sub [2, 3, 4, 5, 6, 7] rfl ?_
            exact V_wide (by omega) (by omega) (hk _ h)
          · replace h := ite_f c64 h
            refine V_iconst 547 C dL_law_547 ic0 ?_
            cases h
      · replace h := ite_f c62 h
        refine V_iconst 530 C dL_law_530 ic0 ?_
        cases h
    · replace h := ite_f c55 h
      refine V_iconst 511 C dL_law_511 ic1 ?_
      refine V_goto 512 516 C dL_law_512 (by decide) ?_
      obtain ⟨r67, M65, k66, h⟩ := bindM_some h
      refine V_callI 516 (runVO (k := 119) (rest := []) 516 C (kX12_setBlind  k66) cf_X12_setBlind wk_7_42 (ltl (by rfl) rfl) (ceR_X12 (by rfl)) rfl rfl rfl rfl dL_law_516 rfl rfl (show c9 + _ ≤ 603072 by omega) (show s9 + _ ≤ 7182442 by omega)) ?_
      refine V_istore 519 C [(7, .int r67), (6, .int r50), (0, .ref b), (1, .ref (gad G 0)), (2, .ref (gad G 119)), (3, .ref (gad G 129)), (4, .ref (gad G 130)), (5, .int v5)] dL_law_519 rfl rfl ?_
      refine V_aload_n 521 C 4 dL_law_521 rfl ?_
      obtain ⟨r70, M68, k69, h⟩ := bindM_some h
      refine V_callI 522 (runVO (k := 119) (rest := []) 522 C (kX12_thrown  k69) cf_X12_thrown wk_6_124 (ltl (by rfl) rfl) (ceR_X12 (by rfl)) rfl rfl rfl rfl dL_law_522 rfl rfl (show c9 + _ ≤ 603072 by omega) (show s9 + _ ≤ 7182442 by omega)) ?_
      refine V_iload 525 C 1 dL_law_525 rfl ?_
      refine V_icmp_eq 527 532 C dL_law_527 (by decide) (fun c71 => ?_) (fun c71 => ?_)
      · replace h := ite_t c71 h
        refine V_iload 532 C 1 dL_law_532 rfl ?_
        refine V_if_ne 534 549 C dL_law_534 (by decide) (fun c72 => ?_) (fun c72 => ?_)
        · replace h := ite_f c72 h
          refine V_goto 549 2596 C dL_law_549 (by decide) ?_
          refine V_sub [2, 3, 4, 5, 6, 7] rfl ?_
          exact V_wide (by omega) (by omega) (hk _ h)
        · replace h := ite_t c72 h
          refine V_aload_n 537 C 5 dL_law_537 rfl ?_
          refine V_iconst 538 C dL_law_538 ic0 ?_
          refine V_lald 539 C dL_law_539 (by rfl) ?_
          refine V_iload 540 C 0 dL_law_540 rfl ?_
          refine V_i2l 542 C dL_law_542 ?_
          refine V_lcmp 543 C dL_law_543 ?_
          refine V_if_eq 544 549 C dL_law_544 (by decide) (fun c73 => ?_) (fun c73 => ?_)
          · replace h := ite_t c73 h
            refine V_goto 549 2596 C dL_law_549 (by decide) ?_
            refine V_sub [2, 3, 4, 5, 6, 7] rfl ?_
            exact V_wide (by omega) (by omega) (hk _ h)
          · replace h := ite_f c73 h
            refine V_iconst 547 C dL_law_547 ic0 ?_
            cases h
      · replace h := ite_f c71 h
        refine V_iconst 530 C dL_law_530 ic0 ?_
        cases h
  · replace h := ite_f c49 h
    refine V_iconst 484 C dL_law_484 ic1 ?_
    refine V_goto 485 489 C dL_law_485 (by decide) ?_
    refine V_aload_n 489 C 3 dL_law_489 rfl ?_
    obtain ⟨r74, M75, k76, h⟩ := bindM_some h
    refine V_callH (mc := 1) (ms := 6) (rest := []) 490 C (kL_setBlind T k76) ch_L_setBlind wk_4_91 rfl rfl dL_law_490 rfl rfl (show c9 + _ + _ ≤ 603072 by omega) (show s9 + _ + _ ≤ 7182442 by omega) ?_
    refine V_istore 493 C [(6, .int r74), (0, .ref b), (1, .ref (gad G 0)), (2, .ref (gad G 119)), (3, .ref (gad G 129)), (4, .ref (gad G 130)), (5, .int v5)] dL_law_493 rfl rfl ?_
    refine V_aload_n 495 C 3 dL_law_495 rfl ?_
    refine V_aload_n 496 C 1 dL_law_496 rfl ?_
    refine V_iload 497 C 6 dL_law_497 rfl ?_
    refine V_iconst 499 C dL_law_499 ic1 ?_
    refine V_iadd 500 C dL_law_500 ?_
    obtain ⟨c77, h⟩ := chk_some h
    refine V_sld 501 C S dL_law_501 c77 ?_
    refine V_aload_n 502 C 1 dL_law_502 rfl ?_
    refine V_iload 503 C 6 dL_law_503 rfl ?_
    refine V_iconst 505 C dL_law_505 ic2 ?_
    refine V_iadd 506 C dL_law_506 ?_
    obtain ⟨c78, h⟩ := chk_some h
    refine V_sld 507 C S dL_law_507 c78 ?_
    refine V_if_eq 508 515 C dL_law_508 (by decide) (fun c79 => ?_) (fun c79 => ?_)
    · replace h := ite_t c79 h
      refine V_iconst 515 C dL_law_515 ic0 ?_
      obtain ⟨r82, M80, k81, h⟩ := bindM_some h
      refine V_callI 516 (runVO (k := 119) (rest := []) 516 C (kX12_setBlind  k81) cf_X12_setBlind wk_7_42 (ltl (by rfl) rfl) (ceR_X12 (by rfl)) rfl rfl rfl rfl dL_law_516 rfl rfl (show c9 + _ ≤ 603072 by omega) (show s9 + _ ≤ 7182442 by omega)) ?_
      refine V_istore 519 C [(7, .int r82), (6, .int r74), (0, .ref b), (1, .ref (gad G 0)), (2, .ref (gad G 119)), (3, .ref (gad G 129)), (4, .ref (gad G 130)), (5, .int v5)] dL_law_519 rfl rfl ?_
      refine V_aload_n 521 C 4 dL_law_521 rfl ?_
      obtain ⟨r85, M83, k84, h⟩ := bindM_some h
      refine V_callI 522 (runVO (k := 119) (rest := []) 522 C (kX12_thrown  k84) cf_X12_thrown wk_6_124 (ltl (by rfl) rfl) (ceR_X12 (by rfl)) rfl rfl rfl rfl dL_law_522 rfl rfl (show c9 + _ ≤ 603072 by omega) (show s9 + _ ≤ 7182442 by omega)) ?_
      refine V_iload 525 C 1 dL_law_525 rfl ?_
      refine V_icmp_eq 527 532 C dL_law_527 (by decide) (fun c86 => ?_) (fun c86 => ?_)
      · replace h := ite_t c86 h
        refine V_iload 532 C 1 dL_law_532 rfl ?_
        refine V_if_ne 534 549 C dL_law_534 (by decide) (fun c87 => ?_) (fun c87 => ?_)
        · replace h := ite_f c87 h
          refine V_goto 549 2596 C dL_law_549 (by decide) ?_
          refine V_sub [2, 3, 4, 5, 6, 7] rfl ?_
          exact V_wide (by omega) (by omega) (hk _ h)
        · replace h := ite_t c87 h
          refine V_aload_n 537 C 5 dL_law_537 rfl ?_
          refine V_iconst 538 C dL_law_538 ic0 ?_
          refine V_lald 539 C dL_law_539 (by rfl) ?_
          refine V_iload 540 C 0 dL_law_540 rfl ?_
          refine V_i2l 542 C dL_law_542 ?_
          refine V_lcmp 543 C dL_law_543 ?_
          refine V_if_eq 544 549 C dL_law_544 (by decide) (fun c88 => ?_) (fun c88 => ?_)
          · replace h := ite_t c88 h
            refine V_goto 549 2596 C dL_law_549 (by decide) ?_
            refine V_sub [2, 3, 4, 5, 6, 7] rfl ?_
            exact V_wide (by omega) (by omega) (hk _ h)
          · replace h := ite_f c88 h
            refine V_iconst 547 C dL_law_547 ic0 ?_
            cases h
      · replace h := ite_f c86 h
        refine V_iconst 530 C dL_law_530 ic0 ?_
        cases h
    · replace h := ite_f c79 h
      refine V_iconst 511 C dL_law_511 ic1 ?_
      refine V_goto 512 516 C dL_law_512 (by decide) ?_
      obtain ⟨r91, M89, k90, h⟩ := bindM_some h
      refine V_callI 516 (runVO (k := 119) (rest := []) 516 C (kX12_setBlind  k90) cf_X12_setBlind wk_7_42 (ltl (by rfl) rfl) (ceR_X12 (by rfl)) rfl rfl rfl rfl dL_law_516 rfl rfl (show c9 + _ ≤ 603072 by omega) (show s9 + _ ≤ 7182442 by omega)) ?_
      refine V_istore 519 C [(7, .int r91), (6, .int r74), (0, .ref b), (1, .ref (gad G 0)), (2, .ref (gad G 119)), (3, .ref (gad G 129)), (4, .ref (gad G 130)), (5, .int v5)] dL_law_519 rfl rfl ?_
      refine V_aload_n 521 C 4 dL_law_521 rfl ?_
      obtain ⟨r94, M92, k93, h⟩ := bindM_some h
      refine V_callI 522 (runVO (k := 119) (rest := []) 522 C (kX12_thrown  k93) cf_X12_thrown wk_6_124 (ltl (by rfl) rfl) (ceR_X12 (by rfl)) rfl rfl rfl rfl dL_law_522 rfl rfl (show c9 + _ ≤ 603072 by omega) (show s9 + _ ≤ 7182442 by omega)) ?_
      refine V_iload 525 C 1 dL_law_525 rfl ?_
      refine V_icmp_eq 527 532 C dL_law_527 (by decide) (fun c95 => ?_) (fun c95 => ?_)
      · replace h := ite_t c95 h
        refine V_iload 532 C 1 dL_law_532 rfl ?_
        refine V_if_ne 534 549 C dL_law_534 (by decide) (fun c96 => ?_) (fun c96 => ?_)
        · replace h := ite_f c96 h
          refine V_goto 549 2596 C dL_law_549 (by decide) ?_
          refine V_sub [2, 3, 4, 5, 6, 7] rfl ?_
          exact V_wide (by omega) (by omega) (hk _ h)
        · replace h := ite_t c96 h
          refine V_aload_n 537 C 5 dL_law_537 rfl ?_
          refine V_iconst 538 C dL_law_538 ic0 ?_
          refine V_lald 539 C dL_law_539 (by rfl) ?_
          refine V_iload 540 C 0 dL_law_540 rfl ?_
          refine V_i2l 542 C dL_law_542 ?_
          refine V_lcmp 543 C dL_law_543 ?_
          refine V_if_eq 544 549 C dL_law_544 (by decide) (fun c97 => ?_) (fun c97 => ?_)
          · replace h := ite_t c97 h
            refine V_goto 549 2596 C dL_law_549 (by decide) ?_
            refine V_sub [2, 3, 4, 5, 6, 7] rfl ?_
            exact V_wide (by omega) (by omega) (hk _ h)
          · replace h := ite_f c97 h
            refine V_iconst 547 C dL_law_547 ic0 ?_
            cases h
      · replace h := ite_f c95 h
        refine V_iconst 530 C dL_law_530 ic0 ?_
        cases h
set_option maxHeartbeats 4000000 in
theorem vL_law_552 {G : GG} {κ : KK} {F b Ls : Nat} {xs : Nat → Int32} (C : Cx G κ cL_law "LarderPatrolLaw" ret 9 room_1) (S : CxS G κ b Ls xs) (T : κ.2.1.stackTraces = false) {c9 s9 : Nat} (hc : c9 + 3 ≤ 603072) (hs : s9 + 18 ≤ 7182442) {v5 : Int32} {kx : Mem → Option Bool} (hk : ∀ M : Mem, kx M = some true → V G κ 9 (c9 + 3) (s9 + 18) M 2596 [(0, .ref b), (1, .ref (gad G 0)), (2, .ref (gad G 119)), (3, .ref (gad G 129)), (4, .ref (gad G 130)), (5, .int v5)] []) : ∀ M : Mem, fL_law_552 F Ls xs kx v5 M = some true → V G κ 9 c9 s9 M 552 [(0, .ref b), (1, .ref (gad G 0)), (2, .ref (gad G 119)), (3, .ref (gad G 129)), (4, .ref (gad G 130)), (5, .int v5)] [] := by
  intro M h
  unfold fL_law_552 at h
  refine V_wide (Nat.le_refl (c9 + 0)) (Nat.le_refl (s9 + 0)) ?_
  refine V_aload_n 552 C 1 dL_law_552 rfl ?_
  refine V_aload_n 553 C 0 dL_law_553 rfl ?_
  refine V_iload 554 C 5 dL_law_554 rfl ?_
  refine V_iconst 556 C dL_law_556 ic1 ?_
  refine V_iadd 557 C dL_law_557 ?_
  obtain ⟨c98, h⟩ := chk_some h
  refine V_sld 558 C S dL_law_558 c98 ?_
  refine V_aload_n 559 C 0 dL_law_559 rfl ?_
  refine V_iload 560 C 5 dL_law_560 rfl ?_
  refine V_iconst 562 C dL_law_562 ic2 ?_
  refine V_iadd 563 C dL_law_563 ?_
  obtain ⟨c99, h⟩ := chk_some h
  refine V_sld 564 C S dL_law_564 c99 ?_
  refine V_aload_n 565 C 3 dL_law_565 rfl ?_
  obtain ⟨r100, M101, k102, h⟩ := bindM_some h
  refine V_callH (mc := 1) (ms := 6) (rest := []) 566 C (kL_fill T k102) ch_L_fill wk_4_101 rfl rfl dL_law_566 rfl rfl (show c9 + _ + _ ≤ 603072 by omega) (show s9 + _ + _ ≤ 7182442 by omega) ?_
  refine V_istore 569 C [(6, .int r100), (0, .ref b), (1, .ref (gad G 0)), (2, .ref (gad G 119)), (3, .ref (gad G 129)), (4, .ref (gad G 130)), (5, .int v5)] dL_law_569 rfl rfl ?_
  refine V_aload_n 571 C 3 dL_law_571 rfl ?_
  refine V_aload_n 572 C 1 dL_law_572 rfl ?_
  refine V_iload 573 C 6 dL_law_573 rfl ?_
  refine V_iconst 575 C dL_law_575 ic1 ?_
  refine V_iadd 576 C dL_law_576 ?_
  obtain ⟨c103, h⟩ := chk_some h
  refine V_sld 577 C S dL_law_577 c103 ?_
  refine V_aload_n 578 C 1 dL_law_578 rfl ?_
  refine V_iload 579 C 6 dL_law_579 rfl ?_
  refine V_iconst 581 C dL_law_581 ic2 ?_
  refine V_iadd 582 C dL_law_582 ?_
  obtain ⟨c104, h⟩ := chk_some h
  refine V_sld 583 C S dL_law_583 c104 ?_
  obtain ⟨r107, M105, k106, h⟩ := bindM_some h
  refine V_callI 584 (runVO (k := 119) (rest := []) 584 C (kX12_fill  k106) cf_X12_fill wk_7_54 (ltl (by rfl) rfl) (ceR_X12 (by rfl)) rfl rfl rfl rfl dL_law_584 rfl rfl (show c9 + _ ≤ 603072 by omega) (show s9 + _ ≤ 7182442 by omega)) ?_
  refine V_istore 587 C [(7, .int r107), (6, .int r100), (0, .ref b), (1, .ref (gad G 0)), (2, .ref (gad G 119)), (3, .ref (gad G 129)), (4, .ref (gad G 130)), (5, .int v5)] dL_law_587 rfl rfl ?_
  refine V_aload_n 589 C 4 dL_law_589 rfl ?_
  obtain ⟨r110, M108, k109, h⟩ := bindM_some h
  refine V_callI 590 (runVO (k := 119) (rest := []) 590 C (kX12_thrown  k109) cf_X12_thrown wk_6_124 (ltl (by rfl) rfl) (ceR_X12 (by rfl)) rfl rfl rfl rfl dL_law_590 rfl rfl (show c9 + _ ≤ 603072 by omega) (show s9 + _ ≤ 7182442 by omega)) ?_
  refine V_iload 593 C 1 dL_law_593 rfl ?_
  refine V_icmp_eq 595 600 C dL_law_595 (by decide) (fun c111 => ?_) (fun c111 => ?_)
  · replace h := ite_t c111 h
    refine V_iload 600 C 1 dL_law_600 rfl ?_
    refine V_if_ne 602 617 C dL_law_602 (by decide) (fun c112 => ?_) (fun c112 => ?_)
    · replace h := ite_f c112 h
      refine V_goto 617 2596 C dL_law_617 (by decide) ?_
      refine V_sub [2, 3, 4, 5, 6, 7] rfl ?_
      exact V_wide (by omega) (by omega) (hk _ h)
    · replace h := ite_t c112 h
      refine V_aload_n 605 C 5 dL_law_605 rfl ?_
      refine V_iconst 606 C dL_law_606 ic0 ?_
      refine V_lald 607 C dL_law_607 (by rfl) ?_
      refine V_iload 608 C 0 dL_law_608 rfl ?_
      refine V_i2l 610 C dL_law_610 ?_
      refine V_lcmp 611 C dL_law_611 ?_
      refine V_if_eq 612 617 C dL_law_612 (by decide) (fun c113 => ?_) (fun c113 => ?_)
      · replace h := ite_t c113 h
        refine V_goto 617 2596 C dL_law_617 (by decide) ?_
        refine V_sub [2, 3, 4, 5, 6, 7] rfl ?_
        exact V_wide (by omega) (by omega) (hk _ h)
      · replace h := ite_f c113 h
        refine V_iconst 615 C dL_law_615 ic0 ?_
        cases h
  · replace h := ite_f c111 h
    refine V_iconst 598 C dL_law_598 ic0 ?_
    cases h
set_option maxHeartbeats 4000000 in
theorem vL_law_620 {G : GG} {κ : KK} {F b Ls : Nat} {xs : Nat → Int32} (C : Cx G κ cL_law "LarderPatrolLaw" ret 9 room_1) (S : CxS G κ b Ls xs) (T : κ.2.1.stackTraces = false) {c9 s9 : Nat} (hc : c9 + 3 ≤ 603072) (hs : s9 + 18 ≤ 7182442) {v5 : Int32} {kx : Mem → Option Bool} (hk : ∀ M : Mem, kx M = some true → V G κ 9 (c9 + 3) (s9 + 18) M 2596 [(0, .ref b), (1, .ref (gad G 0)), (2, .ref (gad G 119)), (3, .ref (gad G 129)), (4, .ref (gad G 130)), (5, .int v5)] []) : ∀ M : Mem, fL_law_620 F Ls xs kx v5 M = some true → V G κ 9 c9 s9 M 620 [(0, .ref b), (1, .ref (gad G 0)), (2, .ref (gad G 119)), (3, .ref (gad G 129)), (4, .ref (gad G 130)), (5, .int v5)] [] := by
  intro M h
  unfold fL_law_620 at h
  refine V_wide (Nat.le_refl (c9 + 0)) (Nat.le_refl (s9 + 0)) ?_
  refine V_aload_n 620 C 1 dL_law_620 rfl ?_
  obtain ⟨r116, M114, k115, h⟩ := bindM_some h
  refine V_callI 621 (runVO (k := 0) (rest := []) 621 C (kX11_shelfCount  k115) cf_X11_shelfCount wk_2_64 (ltl (by rfl) rfl) (ceR_X11 (by rfl)) rfl rfl rfl rfl dL_law_621 rfl rfl (show c9 + _ ≤ 603072 by omega) (show s9 + _ ≤ 7182442 by omega)) ?_
  refine V_aload_n 624 C 2 dL_law_624 rfl ?_
  obtain ⟨r119, M117, k118, h⟩ := bindM_some h
  refine V_callI 625 (runVO (k := 119) (rest := [.int r116]) 625 C (kX12_shelfCount  k118) cf_X12_shelfCount wk_7_163 (ltl (by rfl) rfl) (ceR_X12 (by rfl)) rfl rfl rfl rfl dL_law_625 rfl rfl (show c9 + _ ≤ 603072 by omega) (show s9 + _ ≤ 7182442 by omega)) ?_
  refine V_icmp_eq 628 2596 C dL_law_628 (by decide) (fun c120 => ?_) (fun c120 => ?_)
  · replace h := ite_t c120 h
    exact V_wide (by omega) (by omega) (hk _ h)
  · replace h := ite_f c120 h
    refine V_iconst 631 C dL_law_631 ic0 ?_
    cases h
set_option maxHeartbeats 4000000 in
theorem vL_law_633 {G : GG} {κ : KK} {F b Ls : Nat} {xs : Nat → Int32} (C : Cx G κ cL_law "LarderPatrolLaw" ret 9 room_1) (S : CxS G κ b Ls xs) (T : κ.2.1.stackTraces = false) {c9 s9 : Nat} (hc : c9 + 3 ≤ 603072) (hs : s9 + 18 ≤ 7182442) {v5 : Int32} {kx : Mem → Option Bool} (hk : ∀ M : Mem, kx M = some true → V G κ 9 (c9 + 3) (s9 + 18) M 2596 [(0, .ref b), (1, .ref (gad G 0)), (2, .ref (gad G 119)), (3, .ref (gad G 129)), (4, .ref (gad G 130)), (5, .int v5)] []) : ∀ M : Mem, fL_law_633 F Ls xs kx v5 M = some true → V G κ 9 c9 s9 M 633 [(0, .ref b), (1, .ref (gad G 0)), (2, .ref (gad G 119)), (3, .ref (gad G 129)), (4, .ref (gad G 130)), (5, .int v5)] [] := by
  intro M h
  unfold fL_law_633 at h
  refine V_wide (Nat.le_refl (c9 + 0)) (Nat.le_refl (s9 + 0)) ?_
  refine V_aload_n 633 C 1 dL_law_633 rfl ?_
  obtain ⟨r123, M121, k122, h⟩ := bindM_some h
  refine V_callI 634 (runVO (k := 0) (rest := []) 634 C (kX11_passageCount  k122) cf_X11_passageCount wk_2_68 (ltl (by rfl) rfl) (ceR_X11 (by rfl)) rfl rfl rfl rfl dL_law_634 rfl rfl (show c9 + _ ≤ 603072 by omega) (show s9 + _ ≤ 7182442 by omega)) ?_
  refine V_aload_n 637 C 2 dL_law_637 rfl ?_
  obtain ⟨r126, M124, k125, h⟩ := bindM_some h
  refine V_callI 638 (runVO (k := 119) (rest := [.int r123]) 638 C (kX12_passageCount  k125) cf_X12_passageCount wk_7_171 (ltl (by rfl) rfl) (ceR_X12 (by rfl)) rfl rfl rfl rfl dL_law_638 rfl rfl (show c9 + _ ≤ 603072 by omega) (show s9 + _ ≤ 7182442 by omega)) ?_
  refine V_icmp_eq 641 2596 C dL_law_641 (by decide) (fun c127 => ?_) (fun c127 => ?_)
  · replace h := ite_t c127 h
    exact V_wide (by omega) (by omega) (hk _ h)
  · replace h := ite_f c127 h
    refine V_iconst 644 C dL_law_644 ic0 ?_
    cases h
set_option maxHeartbeats 4000000 in
theorem vL_law_646 {G : GG} {κ : KK} {F b Ls : Nat} {xs : Nat → Int32} (C : Cx G κ cL_law "LarderPatrolLaw" ret 9 room_1) (S : CxS G κ b Ls xs) (T : κ.2.1.stackTraces = false) {c9 s9 : Nat} (hc : c9 + 3 ≤ 603072) (hs : s9 + 18 ≤ 7182442) {v5 : Int32} {kx : Mem → Option Bool} (hk : ∀ M : Mem, kx M = some true → V G κ 9 (c9 + 3) (s9 + 18) M 2596 [(0, .ref b), (1, .ref (gad G 0)), (2, .ref (gad G 119)), (3, .ref (gad G 129)), (4, .ref (gad G 130)), (5, .int v5)] []) : ∀ M : Mem, fL_law_646 F Ls xs kx v5 M = some true → V G κ 9 c9 s9 M 646 [(0, .ref b), (1, .ref (gad G 0)), (2, .ref (gad G 119)), (3, .ref (gad G 129)), (4, .ref (gad G 130)), (5, .int v5)] [] := by
  intro M h
  unfold fL_law_646 at h
  refine V_wide (Nat.le_refl (c9 + 0)) (Nat.le_refl (s9 + 0)) ?_
  refine V_aload_n 646 C 1 dL_law_646 rfl ?_
  refine V_aload_n 647 C 0 dL_law_647 rfl ?_
  refine V_iload 648 C 5 dL_law_648 rfl ?_
  refine V_iconst 650 C dL_law_650 ic1 ?_
  refine V_iadd 651 C dL_law_651 ?_
  obtain ⟨c128, h⟩ := chk_some h
  refine V_sld 652 C S dL_law_652 c128 ?_
  refine V_aload_n 653 C 3 dL_law_653 rfl ?_
  obtain ⟨r129, M130, k131, h⟩ := bindM_some h
  refine V_callH (mc := 1) (ms := 6) (rest := []) 654 C (kL_cheese T k131) ch_L_cheese wk_4_110 rfl rfl dL_law_654 rfl rfl (show c9 + _ + _ ≤ 603072 by omega) (show s9 + _ + _ ≤ 7182442 by omega) ?_
  refine V_istore 657 C [(6, .int r129), (0, .ref b), (1, .ref (gad G 0)), (2, .ref (gad G 119)), (3, .ref (gad G 129)), (4, .ref (gad G 130)), (5, .int v5)] dL_law_657 rfl rfl ?_
  refine V_aload_n 659 C 3 dL_law_659 rfl ?_
  refine V_aload_n 660 C 1 dL_law_660 rfl ?_
  refine V_iload 661 C 6 dL_law_661 rfl ?_
  refine V_iconst 663 C dL_law_663 ic1 ?_
  refine V_iadd 664 C dL_law_664 ?_
  obtain ⟨c132, h⟩ := chk_some h
  refine V_sld 665 C S dL_law_665 c132 ?_
  obtain ⟨r135, M133, k134, h⟩ := bindM_some h
  refine V_callI 666 (runVO (k := 119) (rest := []) 666 C (kX12_cheese  k134) cf_X12_cheese wk_7_175 (ltl (by rfl) rfl) (ceR_X12 (by rfl)) rfl rfl rfl rfl dL_law_666 rfl rfl (show c9 + _ ≤ 603072 by omega) (show s9 + _ ≤ 7182442 by omega)) ?_
  refine V_istore 669 C [(7, .int r135), (6, .int r129), (0, .ref b), (1, .ref (gad G 0)), (2, .ref (gad G 119)), (3, .ref (gad G 129)), (4, .ref (gad G 130)), (5, .int v5)] dL_law_669 rfl rfl ?_
  refine V_aload_n 671 C 4 dL_law_671 rfl ?_
  obtain ⟨r138, M136, k137, h⟩ := bindM_some h
  refine V_callI 672 (runVO (k := 119) (rest := []) 672 C (kX12_thrown  k137) cf_X12_thrown wk_6_124 (ltl (by rfl) rfl) (ceR_X12 (by rfl)) rfl rfl rfl rfl dL_law_672 rfl rfl (show c9 + _ ≤ 603072 by omega) (show s9 + _ ≤ 7182442 by omega)) ?_
  refine V_iload 675 C 1 dL_law_675 rfl ?_
  refine V_icmp_eq 677 682 C dL_law_677 (by decide) (fun c139 => ?_) (fun c139 => ?_)
  · replace h := ite_t c139 h
    refine V_iload 682 C 1 dL_law_682 rfl ?_
    refine V_if_ne 684 699 C dL_law_684 (by decide) (fun c140 => ?_) (fun c140 => ?_)
    · replace h := ite_f c140 h
      refine V_goto 699 2596 C dL_law_699 (by decide) ?_
      refine V_sub [2, 3, 4, 5, 6, 7] rfl ?_
      exact V_wide (by omega) (by omega) (hk _ h)
    · replace h := ite_t c140 h
      refine V_aload_n 687 C 5 dL_law_687 rfl ?_
      refine V_iconst 688 C dL_law_688 ic0 ?_
      refine V_lald 689 C dL_law_689 (by rfl) ?_
      refine V_iload 690 C 0 dL_law_690 rfl ?_
      refine V_i2l 692 C dL_law_692 ?_
      refine V_lcmp 693 C dL_law_693 ?_
      refine V_if_eq 694 699 C dL_law_694 (by decide) (fun c141 => ?_) (fun c141 => ?_)
      · replace h := ite_t c141 h
        refine V_goto 699 2596 C dL_law_699 (by decide) ?_
        refine V_sub [2, 3, 4, 5, 6, 7] rfl ?_
        exact V_wide (by omega) (by omega) (hk _ h)
      · replace h := ite_f c141 h
        refine V_iconst 697 C dL_law_697 ic0 ?_
        cases h
  · replace h := ite_f c139 h
    refine V_iconst 680 C dL_law_680 ic0 ?_
    cases h
set_option maxHeartbeats 4000000 in
theorem vL_law_702 {G : GG} {κ : KK} {F b Ls : Nat} {xs : Nat → Int32} (C : Cx G κ cL_law "LarderPatrolLaw" ret 9 room_1) (S : CxS G κ b Ls xs) (T : κ.2.1.stackTraces = false) {c9 s9 : Nat} (hc : c9 + 3 ≤ 603072) (hs : s9 + 18 ≤ 7182442) {v5 : Int32} {kx : Mem → Option Bool} (hk : ∀ M : Mem, kx M = some true → V G κ 9 (c9 + 3) (s9 + 18) M 2596 [(0, .ref b), (1, .ref (gad G 0)), (2, .ref (gad G 119)), (3, .ref (gad G 129)), (4, .ref (gad G 130)), (5, .int v5)] []) : ∀ M : Mem, fL_law_702 F Ls xs kx v5 M = some true → V G κ 9 c9 s9 M 702 [(0, .ref b), (1, .ref (gad G 0)), (2, .ref (gad G 119)), (3, .ref (gad G 129)), (4, .ref (gad G 130)), (5, .int v5)] [] := by
  intro M h
  unfold fL_law_702 at h
  refine V_wide (Nat.le_refl (c9 + 0)) (Nat.le_refl (s9 + 0)) ?_
  refine V_aload_n 702 C 1 dL_law_702 rfl ?_
  refine V_aload_n 703 C 0 dL_law_703 rfl ?_
  refine V_iload 704 C 5 dL_law_704 rfl ?_
  refine V_iconst 706 C dL_law_706 ic1 ?_
  refine V_iadd 707 C dL_law_707 ?_
  obtain ⟨c142, h⟩ := chk_some h
  refine V_sld 708 C S dL_law_708 c142 ?_
  refine V_aload_n 709 C 3 dL_law_709 rfl ?_
  obtain ⟨r143, M144, k145, h⟩ := bindM_some h
  refine V_callH (mc := 1) (ms := 6) (rest := []) 710 C (kL_isBlind T k145) ch_L_isBlind wk_4_124 rfl rfl dL_law_710 rfl rfl (show c9 + _ + _ ≤ 603072 by omega) (show s9 + _ + _ ≤ 7182442 by omega) ?_
  refine V_istore 713 C [(6, .int r143), (0, .ref b), (1, .ref (gad G 0)), (2, .ref (gad G 119)), (3, .ref (gad G 129)), (4, .ref (gad G 130)), (5, .int v5)] dL_law_713 rfl rfl ?_
  refine V_aload_n 715 C 3 dL_law_715 rfl ?_
  refine V_aload_n 716 C 1 dL_law_716 rfl ?_
  refine V_iload 717 C 6 dL_law_717 rfl ?_
  refine V_iconst 719 C dL_law_719 ic1 ?_
  refine V_iadd 720 C dL_law_720 ?_
  obtain ⟨c146, h⟩ := chk_some h
  refine V_sld 721 C S dL_law_721 c146 ?_
  obtain ⟨r149, M147, k148, h⟩ := bindM_some h
  refine V_callI 722 (runVO (k := 119) (rest := []) 722 C (kX12_isBlind  k148) cf_X12_isBlind wk_7_179 (ltl (by rfl) rfl) (ceR_X12 (by rfl)) rfl rfl rfl rfl dL_law_722 rfl rfl (show c9 + _ ≤ 603072 by omega) (show s9 + _ ≤ 7182442 by omega)) ?_
  refine V_istore 725 C [(7, .int (b2i r149)), (6, .int r143), (0, .ref b), (1, .ref (gad G 0)), (2, .ref (gad G 119)), (3, .ref (gad G 129)), (4, .ref (gad G 130)), (5, .int v5)] dL_law_725 rfl rfl ?_
  refine V_aload_n 727 C 4 dL_law_727 rfl ?_
  obtain ⟨r152, M150, k151, h⟩ := bindM_some h
  refine V_callI 728 (runVO (k := 119) (rest := []) 728 C (kX12_thrown  k151) cf_X12_thrown wk_6_124 (ltl (by rfl) rfl) (ceR_X12 (by rfl)) rfl rfl rfl rfl dL_law_728 rfl rfl (show c9 + _ ≤ 603072 by omega) (show s9 + _ ≤ 7182442 by omega)) ?_
  refine V_iload 731 C 1 dL_law_731 rfl ?_
  refine V_icmp_eq 733 738 C dL_law_733 (by decide) (fun c153 => ?_) (fun c153 => ?_)
  · replace h := ite_t c153 h
    refine V_iload 738 C 1 dL_law_738 rfl ?_
    refine V_if_ne 740 762 C dL_law_740 (by decide) (fun c154 => ?_) (fun c154 => ?_)
    · replace h := ite_f c154 h
      refine V_goto 762 2596 C dL_law_762 (by decide) ?_
      refine V_sub [2, 3, 4, 5, 6, 7] rfl ?_
      exact V_wide (by omega) (by omega) (hk _ h)
    · replace h := ite_t c154 h
      refine V_aload_n 743 C 5 dL_law_743 rfl ?_
      refine V_iconst 744 C dL_law_744 ic0 ?_
      refine V_lald 745 C dL_law_745 (by rfl) ?_
      refine V_iload 746 C 0 dL_law_746 rfl ?_
      refine V_ifeq_b 748 755 C dL_law_748 (by decide) (fun c155 => ?_) (fun c155 => ?_)
      · replace h := ite_f c155 h
        refine V_lconst 755 C 0 dL_law_755 (by decide) ?_
        refine V_lcmp 756 C dL_law_756 ?_
        refine V_if_eq 757 762 C dL_law_757 (by decide) (fun c156 => ?_) (fun c156 => ?_)
        · replace h := ite_t c156 h
          refine V_goto 762 2596 C dL_law_762 (by decide) ?_
          refine V_sub [2, 3, 4, 5, 6, 7] rfl ?_
          exact V_wide (by omega) (by omega) (hk _ h)
        · replace h := ite_f c156 h
          refine V_iconst 760 C dL_law_760 ic0 ?_
          cases h
      · replace h := ite_t c155 h
        refine V_lconst 751 C 1 dL_law_751 (by decide) ?_
        refine V_goto 752 756 C dL_law_752 (by decide) ?_
        refine V_lcmp 756 C dL_law_756 ?_
        refine V_if_eq 757 762 C dL_law_757 (by decide) (fun c157 => ?_) (fun c157 => ?_)
        · replace h := ite_t c157 h
          refine V_goto 762 2596 C dL_law_762 (by decide) ?_
          refine V_sub [2, 3, 4, 5, 6, 7] rfl ?_
          exact V_wide (by omega) (by omega) (hk _ h)
        · replace h := ite_f c157 h
          refine V_iconst 760 C dL_law_760 ic0 ?_
          cases h
  · replace h := ite_f c153 h
    refine V_iconst 736 C dL_law_736 ic0 ?_
    cases h
set_option maxHeartbeats 4000000 in
theorem vL_law_765 {G : GG} {κ : KK} {F b Ls : Nat} {xs : Nat → Int32} (C : Cx G κ cL_law "LarderPatrolLaw" ret 9 room_1) (S : CxS G κ b Ls xs) (T : κ.2.1.stackTraces = false) {c9 s9 : Nat} (hc : c9 + 3 ≤ 603072) (hs : s9 + 18 ≤ 7182442) {v5 : Int32} {kx : Mem → Option Bool} (hk : ∀ M : Mem, kx M = some true → V G κ 9 (c9 + 3) (s9 + 18) M 2596 [(0, .ref b), (1, .ref (gad G 0)), (2, .ref (gad G 119)), (3, .ref (gad G 129)), (4, .ref (gad G 130)), (5, .int v5)] []) : ∀ M : Mem, fL_law_765 F Ls xs kx v5 M = some true → V G κ 9 c9 s9 M 765 [(0, .ref b), (1, .ref (gad G 0)), (2, .ref (gad G 119)), (3, .ref (gad G 129)), (4, .ref (gad G 130)), (5, .int v5)] [] := by
  intro M h
  unfold fL_law_765 at h
  refine V_wide (Nat.le_refl (c9 + 0)) (Nat.le_refl (s9 + 0)) ?_
  refine V_aload_n 765 C 1 dL_law_765 rfl ?_
  refine V_aload_n 766 C 0 dL_law_766 rfl ?_
  refine V_iload 767 C 5 dL_law_767 rfl ?_
  refine V_iconst 769 C dL_law_769 ic1 ?_
  refine V_iadd 770 C dL_law_770 ?_
  obtain ⟨c158, h⟩ := chk_some h
  refine V_sld 771 C S dL_law_771 c158 ?_
  refine V_aload_n 772 C 3 dL_law_772 rfl ?_
  obtain ⟨r159, M160, k161, h⟩ := bindM_some h
  refine V_callH (mc := 1) (ms := 6) (rest := []) 773 C (kL_neighbourCount T k161) ch_L_neighbourCount wk_4_132 rfl rfl dL_law_773 rfl rfl (show c9 + _ + _ ≤ 603072 by omega) (show s9 + _ + _ ≤ 7182442 by omega) ?_
  refine V_istore 776 C [(6, .int r159), (0, .ref b), (1, .ref (gad G 0)), (2, .ref (gad G 119)), (3, .ref (gad G 129)), (4, .ref (gad G 130)), (5, .int v5)] dL_law_776 rfl rfl ?_
  refine V_aload_n 778 C 3 dL_law_778 rfl ?_
  refine V_aload_n 779 C 1 dL_law_779 rfl ?_
  refine V_iload 780 C 6 dL_law_780 rfl ?_
  refine V_iconst 782 C dL_law_782 ic1 ?_
  refine V_iadd 783 C dL_law_783 ?_
  obtain ⟨c162, h⟩ := chk_some h
  refine V_sld 784 C S dL_law_784 c162 ?_
  obtain ⟨r165, M163, k164, h⟩ := bindM_some h
  refine V_callI 785 (runVO (k := 119) (rest := []) 785 C (kX12_neighbourCount  k164) cf_X12_neighbourCount wk_7_183 (ltl (by rfl) rfl) (ceR_X12 (by rfl)) rfl rfl rfl rfl dL_law_785 rfl rfl (show c9 + _ ≤ 603072 by omega) (show s9 + _ ≤ 7182442 by omega)) ?_
  refine V_istore 788 C [(7, .int r165), (6, .int r159), (0, .ref b), (1, .ref (gad G 0)), (2, .ref (gad G 119)), (3, .ref (gad G 129)), (4, .ref (gad G 130)), (5, .int v5)] dL_law_788 rfl rfl ?_
  refine V_aload_n 790 C 4 dL_law_790 rfl ?_
  obtain ⟨r168, M166, k167, h⟩ := bindM_some h
  refine V_callI 791 (runVO (k := 119) (rest := []) 791 C (kX12_thrown  k167) cf_X12_thrown wk_6_124 (ltl (by rfl) rfl) (ceR_X12 (by rfl)) rfl rfl rfl rfl dL_law_791 rfl rfl (show c9 + _ ≤ 603072 by omega) (show s9 + _ ≤ 7182442 by omega)) ?_
  refine V_iload 794 C 1 dL_law_794 rfl ?_
  refine V_icmp_eq 796 801 C dL_law_796 (by decide) (fun c169 => ?_) (fun c169 => ?_)
  · replace h := ite_t c169 h
    refine V_iload 801 C 1 dL_law_801 rfl ?_
    refine V_if_ne 803 818 C dL_law_803 (by decide) (fun c170 => ?_) (fun c170 => ?_)
    · replace h := ite_f c170 h
      refine V_goto 818 2596 C dL_law_818 (by decide) ?_
      refine V_sub [2, 3, 4, 5, 6, 7] rfl ?_
      exact V_wide (by omega) (by omega) (hk _ h)
    · replace h := ite_t c170 h
      refine V_aload_n 806 C 5 dL_law_806 rfl ?_
      refine V_iconst 807 C dL_law_807 ic0 ?_
      refine V_lald 808 C dL_law_808 (by rfl) ?_
      refine V_iload 809 C 0 dL_law_809 rfl ?_
      refine V_i2l 811 C dL_law_811 ?_
      refine V_lcmp 812 C dL_law_812 ?_
      refine V_if_eq 813 818 C dL_law_813 (by decide) (fun c171 => ?_) (fun c171 => ?_)
      · replace h := ite_t c171 h
        refine V_goto 818 2596 C dL_law_818 (by decide) ?_
        refine V_sub [2, 3, 4, 5, 6, 7] rfl ?_
        exact V_wide (by omega) (by omega) (hk _ h)
      · replace h := ite_f c171 h
        refine V_iconst 816 C dL_law_816 ic0 ?_
        cases h
  · replace h := ite_f c169 h
    refine V_iconst 799 C dL_law_799 ic0 ?_
    cases h
set_option maxHeartbeats 4000000 in
theorem vL_law_821 {G : GG} {κ : KK} {F b Ls : Nat} {xs : Nat → Int32} (C : Cx G κ cL_law "LarderPatrolLaw" ret 9 room_1) (S : CxS G κ b Ls xs) (T : κ.2.1.stackTraces = false) {c9 s9 : Nat} (hc : c9 + 3 ≤ 603072) (hs : s9 + 18 ≤ 7182442) {v5 : Int32} {kx : Mem → Option Bool} (hk : ∀ M : Mem, kx M = some true → V G κ 9 (c9 + 3) (s9 + 18) M 2596 [(0, .ref b), (1, .ref (gad G 0)), (2, .ref (gad G 119)), (3, .ref (gad G 129)), (4, .ref (gad G 130)), (5, .int v5)] []) : ∀ M : Mem, fL_law_821 F Ls xs kx v5 M = some true → V G κ 9 c9 s9 M 821 [(0, .ref b), (1, .ref (gad G 0)), (2, .ref (gad G 119)), (3, .ref (gad G 129)), (4, .ref (gad G 130)), (5, .int v5)] [] := by
  intro M h
  unfold fL_law_821 at h
  refine V_wide (Nat.le_refl (c9 + 0)) (Nat.le_refl (s9 + 0)) ?_
  refine V_aload_n 821 C 1 dL_law_821 rfl ?_
  refine V_aload_n 822 C 0 dL_law_822 rfl ?_
  refine V_iload 823 C 5 dL_law_823 rfl ?_
  refine V_iconst 825 C dL_law_825 ic1 ?_
  refine V_iadd 826 C dL_law_826 ?_
  obtain ⟨c172, h⟩ := chk_some h
  refine V_sld 827 C S dL_law_827 c172 ?_
  refine V_aload_n 828 C 0 dL_law_828 rfl ?_
  refine V_iload 829 C 5 dL_law_829 rfl ?_
  refine V_iconst 831 C dL_law_831 ic2 ?_
  refine V_iadd 832 C dL_law_832 ?_
  obtain ⟨c173, h⟩ := chk_some h
  refine V_sld 833 C S dL_law_833 c173 ?_
  refine V_aload_n 834 C 3 dL_law_834 rfl ?_
  obtain ⟨r174, M175, k176, h⟩ := bindM_some h
  refine V_callH (mc := 3) (ms := 18) (rest := []) 835 C (kL_distance T k176) ch_L_distance wk_4_140 rfl rfl dL_law_835 rfl rfl (show c9 + _ + _ ≤ 603072 by omega) (show s9 + _ + _ ≤ 7182442 by omega) ?_
  refine V_istore 838 C [(6, .int r174), (0, .ref b), (1, .ref (gad G 0)), (2, .ref (gad G 119)), (3, .ref (gad G 129)), (4, .ref (gad G 130)), (5, .int v5)] dL_law_838 rfl rfl ?_
  refine V_aload_n 840 C 3 dL_law_840 rfl ?_
  refine V_aload_n 841 C 1 dL_law_841 rfl ?_
  refine V_iload 842 C 6 dL_law_842 rfl ?_
  refine V_iconst 844 C dL_law_844 ic1 ?_
  refine V_iadd 845 C dL_law_845 ?_
  obtain ⟨c177, h⟩ := chk_some h
  refine V_sld 846 C S dL_law_846 c177 ?_
  refine V_aload_n 847 C 1 dL_law_847 rfl ?_
  refine V_iload 848 C 6 dL_law_848 rfl ?_
  refine V_iconst 850 C dL_law_850 ic2 ?_
  refine V_iadd 851 C dL_law_851 ?_
  obtain ⟨c178, h⟩ := chk_some h
  refine V_sld 852 C S dL_law_852 c178 ?_
  obtain ⟨r181, M179, k180, h⟩ := bindM_some h
  refine V_callI 853 (runVO (k := 119) (rest := []) 853 C (kX12_distance  k180) cf_X12_distance wk_7_187 (ltl (by rfl) rfl) (ceR_X12 (by rfl)) rfl rfl rfl rfl dL_law_853 rfl rfl (show c9 + _ ≤ 603072 by omega) (show s9 + _ ≤ 7182442 by omega)) ?_
  refine V_istore 856 C [(7, .int r181), (6, .int r174), (0, .ref b), (1, .ref (gad G 0)), (2, .ref (gad G 119)), (3, .ref (gad G 129)), (4, .ref (gad G 130)), (5, .int v5)] dL_law_856 rfl rfl ?_
  refine V_aload_n 858 C 4 dL_law_858 rfl ?_
  obtain ⟨r184, M182, k183, h⟩ := bindM_some h
  refine V_callI 859 (runVO (k := 119) (rest := []) 859 C (kX12_thrown  k183) cf_X12_thrown wk_6_124 (ltl (by rfl) rfl) (ceR_X12 (by rfl)) rfl rfl rfl rfl dL_law_859 rfl rfl (show c9 + _ ≤ 603072 by omega) (show s9 + _ ≤ 7182442 by omega)) ?_
  refine V_iload 862 C 1 dL_law_862 rfl ?_
  refine V_icmp_eq 864 869 C dL_law_864 (by decide) (fun c185 => ?_) (fun c185 => ?_)
  · replace h := ite_t c185 h
    refine V_iload 869 C 1 dL_law_869 rfl ?_
    refine V_if_ne 871 886 C dL_law_871 (by decide) (fun c186 => ?_) (fun c186 => ?_)
    · replace h := ite_f c186 h
      refine V_goto 886 2596 C dL_law_886 (by decide) ?_
      refine V_sub [2, 3, 4, 5, 6, 7] rfl ?_
      exact V_wide (by omega) (by omega) (hk _ h)
    · replace h := ite_t c186 h
      refine V_aload_n 874 C 5 dL_law_874 rfl ?_
      refine V_iconst 875 C dL_law_875 ic0 ?_
      refine V_lald 876 C dL_law_876 (by rfl) ?_
      refine V_iload 877 C 0 dL_law_877 rfl ?_
      refine V_i2l 879 C dL_law_879 ?_
      refine V_lcmp 880 C dL_law_880 ?_
      refine V_if_eq 881 886 C dL_law_881 (by decide) (fun c187 => ?_) (fun c187 => ?_)
      · replace h := ite_t c187 h
        refine V_goto 886 2596 C dL_law_886 (by decide) ?_
        refine V_sub [2, 3, 4, 5, 6, 7] rfl ?_
        exact V_wide (by omega) (by omega) (hk _ h)
      · replace h := ite_f c187 h
        refine V_iconst 884 C dL_law_884 ic0 ?_
        cases h
  · replace h := ite_f c185 h
    refine V_iconst 867 C dL_law_867 ic0 ?_
    cases h
set_option maxHeartbeats 4000000 in
theorem vL_law_889 {G : GG} {κ : KK} {F b Ls : Nat} {xs : Nat → Int32} (C : Cx G κ cL_law "LarderPatrolLaw" ret 9 room_1) (S : CxS G κ b Ls xs) (T : κ.2.1.stackTraces = false) {c9 s9 : Nat} (hc : c9 + 3 ≤ 603072) (hs : s9 + 18 ≤ 7182442) {v5 : Int32} {kx : Mem → Option Bool} (hk : ∀ M : Mem, kx M = some true → V G κ 9 (c9 + 3) (s9 + 18) M 2596 [(0, .ref b), (1, .ref (gad G 0)), (2, .ref (gad G 119)), (3, .ref (gad G 129)), (4, .ref (gad G 130)), (5, .int v5)] []) : ∀ M : Mem, fL_law_889 F Ls xs kx v5 M = some true → V G κ 9 c9 s9 M 889 [(0, .ref b), (1, .ref (gad G 0)), (2, .ref (gad G 119)), (3, .ref (gad G 129)), (4, .ref (gad G 130)), (5, .int v5)] [] := by
  intro M h
  unfold fL_law_889 at h
  refine V_wide (Nat.le_refl (c9 + 0)) (Nat.le_refl (s9 + 0)) ?_
  refine V_aload_n 889 C 1 dL_law_889 rfl ?_
  refine V_aload_n 890 C 0 dL_law_890 rfl ?_
  refine V_iload 891 C 5 dL_law_891 rfl ?_
  refine V_iconst 893 C dL_law_893 ic1 ?_
  refine V_iadd 894 C dL_law_894 ?_
  obtain ⟨c188, h⟩ := chk_some h
  refine V_sld 895 C S dL_law_895 c188 ?_
  refine V_aload_n 896 C 0 dL_law_896 rfl ?_
  refine V_iload 897 C 5 dL_law_897 rfl ?_
  refine V_iconst 899 C dL_law_899 ic2 ?_
  refine V_iadd 900 C dL_law_900 ?_
  obtain ⟨c189, h⟩ := chk_some h
  refine V_sld 901 C S dL_law_901 c189 ?_
  refine V_aload_n 902 C 3 dL_law_902 rfl ?_
  obtain ⟨r190, M191, k192, h⟩ := bindM_some h
  refine V_callH (mc := 3) (ms := 18) (rest := []) 903 C (kL_distanceByTable T k192) ch_L_distanceByTable wk_4_168 rfl rfl dL_law_903 rfl rfl (show c9 + _ + _ ≤ 603072 by omega) (show s9 + _ + _ ≤ 7182442 by omega) ?_
  refine V_istore 906 C [(6, .int r190), (0, .ref b), (1, .ref (gad G 0)), (2, .ref (gad G 119)), (3, .ref (gad G 129)), (4, .ref (gad G 130)), (5, .int v5)] dL_law_906 rfl rfl ?_
  refine V_aload_n 908 C 3 dL_law_908 rfl ?_
  refine V_aload_n 909 C 1 dL_law_909 rfl ?_
  refine V_iload 910 C 6 dL_law_910 rfl ?_
  refine V_iconst 912 C dL_law_912 ic1 ?_
  refine V_iadd 913 C dL_law_913 ?_
  obtain ⟨c193, h⟩ := chk_some h
  refine V_sld 914 C S dL_law_914 c193 ?_
  refine V_aload_n 915 C 1 dL_law_915 rfl ?_
  refine V_iload 916 C 6 dL_law_916 rfl ?_
  refine V_iconst 918 C dL_law_918 ic2 ?_
  refine V_iadd 919 C dL_law_919 ?_
  obtain ⟨c194, h⟩ := chk_some h
  refine V_sld 920 C S dL_law_920 c194 ?_
  obtain ⟨r197, M195, k196, h⟩ := bindM_some h
  refine V_callI 921 (runVO (k := 119) (rest := []) 921 C (kX12_distanceByTable  k196) cf_X12_distanceByTable wk_7_191 (ltl (by rfl) rfl) (ceR_X12 (by rfl)) rfl rfl rfl rfl dL_law_921 rfl rfl (show c9 + _ ≤ 603072 by omega) (show s9 + _ ≤ 7182442 by omega)) ?_
  refine V_istore 924 C [(7, .int r197), (6, .int r190), (0, .ref b), (1, .ref (gad G 0)), (2, .ref (gad G 119)), (3, .ref (gad G 129)), (4, .ref (gad G 130)), (5, .int v5)] dL_law_924 rfl rfl ?_
  refine V_aload_n 926 C 4 dL_law_926 rfl ?_
  obtain ⟨r200, M198, k199, h⟩ := bindM_some h
  refine V_callI 927 (runVO (k := 119) (rest := []) 927 C (kX12_thrown  k199) cf_X12_thrown wk_6_124 (ltl (by rfl) rfl) (ceR_X12 (by rfl)) rfl rfl rfl rfl dL_law_927 rfl rfl (show c9 + _ ≤ 603072 by omega) (show s9 + _ ≤ 7182442 by omega)) ?_
  refine V_iload 930 C 1 dL_law_930 rfl ?_
  refine V_icmp_eq 932 937 C dL_law_932 (by decide) (fun c201 => ?_) (fun c201 => ?_)
  · replace h := ite_t c201 h
    refine V_iload 937 C 1 dL_law_937 rfl ?_
    refine V_if_ne 939 954 C dL_law_939 (by decide) (fun c202 => ?_) (fun c202 => ?_)
    · replace h := ite_f c202 h
      refine V_goto 954 2596 C dL_law_954 (by decide) ?_
      refine V_sub [2, 3, 4, 5, 6, 7] rfl ?_
      exact V_wide (by omega) (by omega) (hk _ h)
    · replace h := ite_t c202 h
      refine V_aload_n 942 C 5 dL_law_942 rfl ?_
      refine V_iconst 943 C dL_law_943 ic0 ?_
      refine V_lald 944 C dL_law_944 (by rfl) ?_
      refine V_iload 945 C 0 dL_law_945 rfl ?_
      refine V_i2l 947 C dL_law_947 ?_
      refine V_lcmp 948 C dL_law_948 ?_
      refine V_if_eq 949 954 C dL_law_949 (by decide) (fun c203 => ?_) (fun c203 => ?_)
      · replace h := ite_t c203 h
        refine V_goto 954 2596 C dL_law_954 (by decide) ?_
        refine V_sub [2, 3, 4, 5, 6, 7] rfl ?_
        exact V_wide (by omega) (by omega) (hk _ h)
      · replace h := ite_f c203 h
        refine V_iconst 952 C dL_law_952 ic0 ?_
        cases h
  · replace h := ite_f c201 h
    refine V_iconst 935 C dL_law_935 ic0 ?_
    cases h
set_option maxHeartbeats 4000000 in
theorem vL_law_957 {G : GG} {κ : KK} {F b Ls : Nat} {xs : Nat → Int32} (C : Cx G κ cL_law "LarderPatrolLaw" ret 9 room_1) (S : CxS G κ b Ls xs) (T : κ.2.1.stackTraces = false) {c9 s9 : Nat} (hc : c9 + 3 ≤ 603072) (hs : s9 + 18 ≤ 7182442) {v5 : Int32} {kx : Mem → Option Bool} (hk : ∀ M : Mem, kx M = some true → V G κ 9 (c9 + 3) (s9 + 18) M 2596 [(0, .ref b), (1, .ref (gad G 0)), (2, .ref (gad G 119)), (3, .ref (gad G 129)), (4, .ref (gad G 130)), (5, .int v5)] []) : ∀ M : Mem, fL_law_957 F Ls xs kx v5 M = some true → V G κ 9 c9 s9 M 957 [(0, .ref b), (1, .ref (gad G 0)), (2, .ref (gad G 119)), (3, .ref (gad G 129)), (4, .ref (gad G 130)), (5, .int v5)] [] := by
  intro M h
  unfold fL_law_957 at h
  refine V_wide (Nat.le_refl (c9 + 0)) (Nat.le_refl (s9 + 0)) ?_
  refine V_aload_n 957 C 1 dL_law_957 rfl ?_
  obtain ⟨r206, M204, k205, h⟩ := bindM_some h
  refine V_callI 958 (runVO (k := 0) (rest := []) 958 C (kX11_groupCount  k205) cf_X11_groupCount wk_2_72 (ltl (by rfl) rfl) (ceR_X11 (by rfl)) rfl rfl rfl rfl dL_law_958 rfl rfl (show c9 + _ ≤ 603072 by omega) (show s9 + _ ≤ 7182442 by omega)) ?_
  refine V_aload_n 961 C 2 dL_law_961 rfl ?_
  obtain ⟨r209, M207, k208, h⟩ := bindM_some h
  refine V_callI 962 (runVO (k := 119) (rest := [.int r206]) 962 C (kX12_groupCount  k208) cf_X12_groupCount wk_7_196 (ltl (by rfl) rfl) (ceR_X12 (by rfl)) rfl rfl rfl rfl dL_law_962 rfl rfl (show c9 + _ ≤ 603072 by omega) (show s9 + _ ≤ 7182442 by omega)) ?_
  refine V_icmp_eq 965 2596 C dL_law_965 (by decide) (fun c210 => ?_) (fun c210 => ?_)
  · replace h := ite_t c210 h
    exact V_wide (by omega) (by omega) (hk _ h)
  · replace h := ite_f c210 h
    refine V_iconst 968 C dL_law_968 ic0 ?_
    cases h
set_option maxHeartbeats 4000000 in
theorem vL_law_970 {G : GG} {κ : KK} {F b Ls : Nat} {xs : Nat → Int32} (C : Cx G κ cL_law "LarderPatrolLaw" ret 9 room_1) (S : CxS G κ b Ls xs) (T : κ.2.1.stackTraces = false) {c9 s9 : Nat} (hc : c9 + 3 ≤ 603072) (hs : s9 + 18 ≤ 7182442) {v5 : Int32} {kx : Mem → Option Bool} (hk : ∀ M : Mem, kx M = some true → V G κ 9 (c9 + 3) (s9 + 18) M 2596 [(0, .ref b), (1, .ref (gad G 0)), (2, .ref (gad G 119)), (3, .ref (gad G 129)), (4, .ref (gad G 130)), (5, .int v5)] []) : ∀ M : Mem, fL_law_970 F Ls xs kx v5 M = some true → V G κ 9 c9 s9 M 970 [(0, .ref b), (1, .ref (gad G 0)), (2, .ref (gad G 119)), (3, .ref (gad G 129)), (4, .ref (gad G 130)), (5, .int v5)] [] := by
  intro M h
  unfold fL_law_970 at h
  refine V_wide (Nat.le_refl (c9 + 0)) (Nat.le_refl (s9 + 0)) ?_
  refine V_aload_n 970 C 1 dL_law_970 rfl ?_
  refine V_aload_n 971 C 0 dL_law_971 rfl ?_
  refine V_iload 972 C 5 dL_law_972 rfl ?_
  refine V_iconst 974 C dL_law_974 ic1 ?_
  refine V_iadd 975 C dL_law_975 ?_
  obtain ⟨c211, h⟩ := chk_some h
  refine V_sld 976 C S dL_law_976 c211 ?_
  refine V_aload_n 977 C 3 dL_law_977 rfl ?_
  obtain ⟨r212, M213, k214, h⟩ := bindM_some h
  refine V_callH (mc := 1) (ms := 6) (rest := []) 978 C (kL_shelfByCheese T k214) ch_L_shelfByCheese wk_4_195 rfl rfl dL_law_978 rfl rfl (show c9 + _ + _ ≤ 603072 by omega) (show s9 + _ + _ ≤ 7182442 by omega) ?_
  refine V_istore 981 C [(6, .int r212), (0, .ref b), (1, .ref (gad G 0)), (2, .ref (gad G 119)), (3, .ref (gad G 129)), (4, .ref (gad G 130)), (5, .int v5)] dL_law_981 rfl rfl ?_
  refine V_aload_n 983 C 3 dL_law_983 rfl ?_
  refine V_aload_n 984 C 1 dL_law_984 rfl ?_
  refine V_iload 985 C 6 dL_law_985 rfl ?_
  refine V_iconst 987 C dL_law_987 ic1 ?_
  refine V_iadd 988 C dL_law_988 ?_
  obtain ⟨c215, h⟩ := chk_some h
  refine V_sld 989 C S dL_law_989 c215 ?_
  obtain ⟨r218, M216, k217, h⟩ := bindM_some h
  refine V_callI 990 (runVO (k := 119) (rest := []) 990 C (kX12_shelfByCheese  k217) cf_X12_shelfByCheese wk_7_200 (ltl (by rfl) rfl) (ceR_X12 (by rfl)) rfl rfl rfl rfl dL_law_990 rfl rfl (show c9 + _ ≤ 603072 by omega) (show s9 + _ ≤ 7182442 by omega)) ?_
  refine V_istore 993 C [(7, .int r218), (6, .int r212), (0, .ref b), (1, .ref (gad G 0)), (2, .ref (gad G 119)), (3, .ref (gad G 129)), (4, .ref (gad G 130)), (5, .int v5)] dL_law_993 rfl rfl ?_
  refine V_aload_n 995 C 4 dL_law_995 rfl ?_
  obtain ⟨r221, M219, k220, h⟩ := bindM_some h
  refine V_callI 996 (runVO (k := 119) (rest := []) 996 C (kX12_thrown  k220) cf_X12_thrown wk_6_124 (ltl (by rfl) rfl) (ceR_X12 (by rfl)) rfl rfl rfl rfl dL_law_996 rfl rfl (show c9 + _ ≤ 603072 by omega) (show s9 + _ ≤ 7182442 by omega)) ?_
  refine V_iload 999 C 1 dL_law_999 rfl ?_
  refine V_icmp_eq 1001 1006 C dL_law_1001 (by decide) (fun c222 => ?_) (fun c222 => ?_)
  · replace h := ite_t c222 h
    refine V_iload 1006 C 1 dL_law_1006 rfl ?_
    refine V_if_ne 1008 1023 C dL_law_1008 (by decide) (fun c223 => ?_) (fun c223 => ?_)
    · replace h := ite_f c223 h
      refine V_goto 1023 2596 C dL_law_1023 (by decide) ?_
      refine V_sub [2, 3, 4, 5, 6, 7] rfl ?_
      exact V_wide (by omega) (by omega) (hk _ h)
    · replace h := ite_t c223 h
      refine V_aload_n 1011 C 5 dL_law_1011 rfl ?_
      refine V_iconst 1012 C dL_law_1012 ic0 ?_
      refine V_lald 1013 C dL_law_1013 (by rfl) ?_
      refine V_iload 1014 C 0 dL_law_1014 rfl ?_
      refine V_i2l 1016 C dL_law_1016 ?_
      refine V_lcmp 1017 C dL_law_1017 ?_
      refine V_if_eq 1018 1023 C dL_law_1018 (by decide) (fun c224 => ?_) (fun c224 => ?_)
      · replace h := ite_t c224 h
        refine V_goto 1023 2596 C dL_law_1023 (by decide) ?_
        refine V_sub [2, 3, 4, 5, 6, 7] rfl ?_
        exact V_wide (by omega) (by omega) (hk _ h)
      · replace h := ite_f c224 h
        refine V_iconst 1021 C dL_law_1021 ic0 ?_
        cases h
  · replace h := ite_f c222 h
    refine V_iconst 1004 C dL_law_1004 ic0 ?_
    cases h
set_option maxHeartbeats 4000000 in
theorem vL_law_1026 {G : GG} {κ : KK} {F b Ls : Nat} {xs : Nat → Int32} (C : Cx G κ cL_law "LarderPatrolLaw" ret 9 room_1) (S : CxS G κ b Ls xs) (T : κ.2.1.stackTraces = false) {c9 s9 : Nat} (hc : c9 + 3 ≤ 603072) (hs : s9 + 18 ≤ 7182442) {v5 : Int32} {kx : Mem → Option Bool} (hk : ∀ M : Mem, kx M = some true → V G κ 9 (c9 + 3) (s9 + 18) M 2596 [(0, .ref b), (1, .ref (gad G 0)), (2, .ref (gad G 119)), (3, .ref (gad G 129)), (4, .ref (gad G 130)), (5, .int v5)] []) : ∀ M : Mem, fL_law_1026 F Ls xs kx v5 M = some true → V G κ 9 c9 s9 M 1026 [(0, .ref b), (1, .ref (gad G 0)), (2, .ref (gad G 119)), (3, .ref (gad G 129)), (4, .ref (gad G 130)), (5, .int v5)] [] := by
  intro M h
  unfold fL_law_1026 at h
  refine V_wide (Nat.le_refl (c9 + 0)) (Nat.le_refl (s9 + 0)) ?_
  refine V_aload_n 1026 C 1 dL_law_1026 rfl ?_
  refine V_aload_n 1027 C 0 dL_law_1027 rfl ?_
  refine V_iload 1028 C 5 dL_law_1028 rfl ?_
  refine V_iconst 1030 C dL_law_1030 ic1 ?_
  refine V_iadd 1031 C dL_law_1031 ?_
  obtain ⟨c225, h⟩ := chk_some h
  refine V_sld 1032 C S dL_law_1032 c225 ?_
  refine V_aload_n 1033 C 3 dL_law_1033 rfl ?_
  obtain ⟨r226, M227, k228, h⟩ := bindM_some h
  refine V_callH (mc := 1) (ms := 6) (rest := []) 1034 C (kL_addStop T k228) ch_L_addStop wk_4_211 rfl rfl dL_law_1034 rfl rfl (show c9 + _ + _ ≤ 603072 by omega) (show s9 + _ + _ ≤ 7182442 by omega) ?_
  refine V_istore 1037 C [(6, .int r226), (0, .ref b), (1, .ref (gad G 0)), (2, .ref (gad G 119)), (3, .ref (gad G 129)), (4, .ref (gad G 130)), (5, .int v5)] dL_law_1037 rfl rfl ?_
  refine V_aload_n 1039 C 3 dL_law_1039 rfl ?_
  refine V_aload_n 1040 C 1 dL_law_1040 rfl ?_
  refine V_iload 1041 C 6 dL_law_1041 rfl ?_
  refine V_iconst 1043 C dL_law_1043 ic1 ?_
  refine V_iadd 1044 C dL_law_1044 ?_
  obtain ⟨c229, h⟩ := chk_some h
  refine V_sld 1045 C S dL_law_1045 c229 ?_
  obtain ⟨r232, M230, k231, h⟩ := bindM_some h
  refine V_callI 1046 (runVO (k := 119) (rest := []) 1046 C (kX12_addStop  k231) cf_X12_addStop wk_7_66 (ltl (by rfl) rfl) (ceR_X12 (by rfl)) rfl rfl rfl rfl dL_law_1046 rfl rfl (show c9 + _ ≤ 603072 by omega) (show s9 + _ ≤ 7182442 by omega)) ?_
  refine V_istore 1049 C [(7, .int r232), (6, .int r226), (0, .ref b), (1, .ref (gad G 0)), (2, .ref (gad G 119)), (3, .ref (gad G 129)), (4, .ref (gad G 130)), (5, .int v5)] dL_law_1049 rfl rfl ?_
  refine V_aload_n 1051 C 4 dL_law_1051 rfl ?_
  obtain ⟨r235, M233, k234, h⟩ := bindM_some h
  refine V_callI 1052 (runVO (k := 119) (rest := []) 1052 C (kX12_thrown  k234) cf_X12_thrown wk_6_124 (ltl (by rfl) rfl) (ceR_X12 (by rfl)) rfl rfl rfl rfl dL_law_1052 rfl rfl (show c9 + _ ≤ 603072 by omega) (show s9 + _ ≤ 7182442 by omega)) ?_
  refine V_iload 1055 C 1 dL_law_1055 rfl ?_
  refine V_icmp_eq 1057 1062 C dL_law_1057 (by decide) (fun c236 => ?_) (fun c236 => ?_)
  · replace h := ite_t c236 h
    refine V_iload 1062 C 1 dL_law_1062 rfl ?_
    refine V_if_ne 1064 1079 C dL_law_1064 (by decide) (fun c237 => ?_) (fun c237 => ?_)
    · replace h := ite_f c237 h
      refine V_goto 1079 2596 C dL_law_1079 (by decide) ?_
      refine V_sub [2, 3, 4, 5, 6, 7] rfl ?_
      exact V_wide (by omega) (by omega) (hk _ h)
    · replace h := ite_t c237 h
      refine V_aload_n 1067 C 5 dL_law_1067 rfl ?_
      refine V_iconst 1068 C dL_law_1068 ic0 ?_
      refine V_lald 1069 C dL_law_1069 (by rfl) ?_
      refine V_iload 1070 C 0 dL_law_1070 rfl ?_
      refine V_i2l 1072 C dL_law_1072 ?_
      refine V_lcmp 1073 C dL_law_1073 ?_
      refine V_if_eq 1074 1079 C dL_law_1074 (by decide) (fun c238 => ?_) (fun c238 => ?_)
      · replace h := ite_t c238 h
        refine V_goto 1079 2596 C dL_law_1079 (by decide) ?_
        refine V_sub [2, 3, 4, 5, 6, 7] rfl ?_
        exact V_wide (by omega) (by omega) (hk _ h)
      · replace h := ite_f c238 h
        refine V_iconst 1077 C dL_law_1077 ic0 ?_
        cases h
  · replace h := ite_f c236 h
    refine V_iconst 1060 C dL_law_1060 ic0 ?_
    cases h
set_option maxHeartbeats 4000000 in
theorem vL_law_1082 {G : GG} {κ : KK} {F b Ls : Nat} {xs : Nat → Int32} (C : Cx G κ cL_law "LarderPatrolLaw" ret 9 room_1) (S : CxS G κ b Ls xs) (T : κ.2.1.stackTraces = false) {c9 s9 : Nat} (hc : c9 + 3 ≤ 603072) (hs : s9 + 18 ≤ 7182442) {v5 : Int32} {kx : Mem → Option Bool} (hk : ∀ M : Mem, kx M = some true → V G κ 9 (c9 + 3) (s9 + 18) M 2596 [(0, .ref b), (1, .ref (gad G 0)), (2, .ref (gad G 119)), (3, .ref (gad G 129)), (4, .ref (gad G 130)), (5, .int v5)] []) : ∀ M : Mem, fL_law_1082 F Ls xs kx v5 M = some true → V G κ 9 c9 s9 M 1082 [(0, .ref b), (1, .ref (gad G 0)), (2, .ref (gad G 119)), (3, .ref (gad G 129)), (4, .ref (gad G 130)), (5, .int v5)] [] := by
  intro M h
  unfold fL_law_1082 at h
  refine V_wide (Nat.le_refl (c9 + 0)) (Nat.le_refl (s9 + 0)) ?_
  refine V_aload_n 1082 C 1 dL_law_1082 rfl ?_
  refine V_aload_n 1083 C 0 dL_law_1083 rfl ?_
  refine V_iload 1084 C 5 dL_law_1084 rfl ?_
  refine V_iconst 1086 C dL_law_1086 ic1 ?_
  refine V_iadd 1087 C dL_law_1087 ?_
  obtain ⟨c239, h⟩ := chk_some h
  refine V_sld 1088 C S dL_law_1088 c239 ?_
  refine V_aload_n 1089 C 3 dL_law_1089 rfl ?_
  obtain ⟨r240, M241, k242, h⟩ := bindM_some h
  refine V_callH (mc := 1) (ms := 6) (rest := []) 1090 C (kL_removeStop T k242) ch_L_removeStop wk_4_220 rfl rfl dL_law_1090 rfl rfl (show c9 + _ + _ ≤ 603072 by omega) (show s9 + _ + _ ≤ 7182442 by omega) ?_
  refine V_istore 1093 C [(6, .int r240), (0, .ref b), (1, .ref (gad G 0)), (2, .ref (gad G 119)), (3, .ref (gad G 129)), (4, .ref (gad G 130)), (5, .int v5)] dL_law_1093 rfl rfl ?_
  refine V_aload_n 1095 C 3 dL_law_1095 rfl ?_
  refine V_aload_n 1096 C 1 dL_law_1096 rfl ?_
  refine V_iload 1097 C 6 dL_law_1097 rfl ?_
  refine V_iconst 1099 C dL_law_1099 ic1 ?_
  refine V_iadd 1100 C dL_law_1100 ?_
  obtain ⟨c243, h⟩ := chk_some h
  refine V_sld 1101 C S dL_law_1101 c243 ?_
  obtain ⟨r246, M244, k245, h⟩ := bindM_some h
  refine V_callI 1102 (runVO (k := 119) (rest := []) 1102 C (kX12_removeStop  k245) cf_X12_removeStop wk_7_78 (ltl (by rfl) rfl) (ceR_X12 (by rfl)) rfl rfl rfl rfl dL_law_1102 rfl rfl (show c9 + _ ≤ 603072 by omega) (show s9 + _ ≤ 7182442 by omega)) ?_
  refine V_istore 1105 C [(7, .int r246), (6, .int r240), (0, .ref b), (1, .ref (gad G 0)), (2, .ref (gad G 119)), (3, .ref (gad G 129)), (4, .ref (gad G 130)), (5, .int v5)] dL_law_1105 rfl rfl ?_
  refine V_aload_n 1107 C 4 dL_law_1107 rfl ?_
  obtain ⟨r249, M247, k248, h⟩ := bindM_some h
  refine V_callI 1108 (runVO (k := 119) (rest := []) 1108 C (kX12_thrown  k248) cf_X12_thrown wk_6_124 (ltl (by rfl) rfl) (ceR_X12 (by rfl)) rfl rfl rfl rfl dL_law_1108 rfl rfl (show c9 + _ ≤ 603072 by omega) (show s9 + _ ≤ 7182442 by omega)) ?_
  refine V_iload 1111 C 1 dL_law_1111 rfl ?_
  refine V_icmp_eq 1113 1118 C dL_law_1113 (by decide) (fun c250 => ?_) (fun c250 => ?_)
  · replace h := ite_t c250 h
    refine V_iload 1118 C 1 dL_law_1118 rfl ?_
    refine V_if_ne 1120 1135 C dL_law_1120 (by decide) (fun c251 => ?_) (fun c251 => ?_)
    · replace h := ite_f c251 h
      refine V_goto 1135 2596 C dL_law_1135 (by decide) ?_
      refine V_sub [2, 3, 4, 5, 6, 7] rfl ?_
      exact V_wide (by omega) (by omega) (hk _ h)
    · replace h := ite_t c251 h
      refine V_aload_n 1123 C 5 dL_law_1123 rfl ?_
      refine V_iconst 1124 C dL_law_1124 ic0 ?_
      refine V_lald 1125 C dL_law_1125 (by rfl) ?_
      refine V_iload 1126 C 0 dL_law_1126 rfl ?_
      refine V_i2l 1128 C dL_law_1128 ?_
      refine V_lcmp 1129 C dL_law_1129 ?_
      refine V_if_eq 1130 1135 C dL_law_1130 (by decide) (fun c252 => ?_) (fun c252 => ?_)
      · replace h := ite_t c252 h
        refine V_goto 1135 2596 C dL_law_1135 (by decide) ?_
        refine V_sub [2, 3, 4, 5, 6, 7] rfl ?_
        exact V_wide (by omega) (by omega) (hk _ h)
      · replace h := ite_f c252 h
        refine V_iconst 1133 C dL_law_1133 ic0 ?_
        cases h
  · replace h := ite_f c250 h
    refine V_iconst 1116 C dL_law_1116 ic0 ?_
    cases h
set_option maxHeartbeats 4000000 in
theorem vL_law_1138 {G : GG} {κ : KK} {F b Ls : Nat} {xs : Nat → Int32} (C : Cx G κ cL_law "LarderPatrolLaw" ret 9 room_1) (S : CxS G κ b Ls xs) (T : κ.2.1.stackTraces = false) {c9 s9 : Nat} (hc : c9 + 3 ≤ 603072) (hs : s9 + 18 ≤ 7182442) {v5 : Int32} {kx : Mem → Option Bool} (hk : ∀ M : Mem, kx M = some true → V G κ 9 (c9 + 3) (s9 + 18) M 2596 [(0, .ref b), (1, .ref (gad G 0)), (2, .ref (gad G 119)), (3, .ref (gad G 129)), (4, .ref (gad G 130)), (5, .int v5)] []) : ∀ M : Mem, fL_law_1138 F Ls xs kx v5 M = some true → V G κ 9 c9 s9 M 1138 [(0, .ref b), (1, .ref (gad G 0)), (2, .ref (gad G 119)), (3, .ref (gad G 129)), (4, .ref (gad G 130)), (5, .int v5)] [] := by
  intro M h
  unfold fL_law_1138 at h
  refine V_wide (Nat.le_refl (c9 + 0)) (Nat.le_refl (s9 + 0)) ?_
  refine V_aload_n 1138 C 1 dL_law_1138 rfl ?_
  obtain ⟨r255, M253, k254, h⟩ := bindM_some h
  refine V_callI 1139 (runVO (k := 0) (rest := []) 1139 C (kX11_stopCount  k254) cf_X11_stopCount wk_2_94 (ltl (by rfl) rfl) (ceR_X11 (by rfl)) rfl rfl rfl rfl dL_law_1139 rfl rfl (show c9 + _ ≤ 603072 by omega) (show s9 + _ ≤ 7182442 by omega)) ?_
  refine V_aload_n 1142 C 2 dL_law_1142 rfl ?_
  obtain ⟨r258, M256, k257, h⟩ := bindM_some h
  refine V_callI 1143 (runVO (k := 119) (rest := [.int r255]) 1143 C (kX12_stopCount  k257) cf_X12_stopCount wk_7_204 (ltl (by rfl) rfl) (ceR_X12 (by rfl)) rfl rfl rfl rfl dL_law_1143 rfl rfl (show c9 + _ ≤ 603072 by omega) (show s9 + _ ≤ 7182442 by omega)) ?_
  refine V_icmp_eq 1146 2596 C dL_law_1146 (by decide) (fun c259 => ?_) (fun c259 => ?_)
  · replace h := ite_t c259 h
    exact V_wide (by omega) (by omega) (hk _ h)
  · replace h := ite_f c259 h
    refine V_iconst 1149 C dL_law_1149 ic0 ?_
    cases h
set_option maxHeartbeats 4000000 in
theorem vL_law_1151 {G : GG} {κ : KK} {F b Ls : Nat} {xs : Nat → Int32} (C : Cx G κ cL_law "LarderPatrolLaw" ret 9 room_1) (S : CxS G κ b Ls xs) (T : κ.2.1.stackTraces = false) {c9 s9 : Nat} (hc : c9 + 3 ≤ 603072) (hs : s9 + 18 ≤ 7182442) {v5 : Int32} {kx : Mem → Option Bool} (hk : ∀ M : Mem, kx M = some true → V G κ 9 (c9 + 3) (s9 + 18) M 2596 [(0, .ref b), (1, .ref (gad G 0)), (2, .ref (gad G 119)), (3, .ref (gad G 129)), (4, .ref (gad G 130)), (5, .int v5)] []) : ∀ M : Mem, fL_law_1151 F Ls xs kx v5 M = some true → V G κ 9 c9 s9 M 1151 [(0, .ref b), (1, .ref (gad G 0)), (2, .ref (gad G 119)), (3, .ref (gad G 129)), (4, .ref (gad G 130)), (5, .int v5)] [] := by
  intro M h
  unfold fL_law_1151 at h
  refine V_wide (Nat.le_refl (c9 + 0)) (Nat.le_refl (s9 + 0)) ?_
  refine V_aload_n 1151 C 1 dL_law_1151 rfl ?_
  refine V_aload_n 1152 C 0 dL_law_1152 rfl ?_
  refine V_iload 1153 C 5 dL_law_1153 rfl ?_
  refine V_iconst 1155 C dL_law_1155 ic1 ?_
  refine V_iadd 1156 C dL_law_1156 ?_
  obtain ⟨c260, h⟩ := chk_some h
  refine V_sld 1157 C S dL_law_1157 c260 ?_
  refine V_aload_n 1158 C 3 dL_law_1158 rfl ?_
  obtain ⟨r261, M262, k263, h⟩ := bindM_some h
  refine V_callH (mc := 1) (ms := 6) (rest := []) 1159 C (kL_shelfOfStop T k263) ch_L_shelfOfStop wk_4_229 rfl rfl dL_law_1159 rfl rfl (show c9 + _ + _ ≤ 603072 by omega) (show s9 + _ + _ ≤ 7182442 by omega) ?_
  refine V_istore 1162 C [(6, .int r261), (0, .ref b), (1, .ref (gad G 0)), (2, .ref (gad G 119)), (3, .ref (gad G 129)), (4, .ref (gad G 130)), (5, .int v5)] dL_law_1162 rfl rfl ?_
  refine V_aload_n 1164 C 3 dL_law_1164 rfl ?_
  refine V_aload_n 1165 C 1 dL_law_1165 rfl ?_
  refine V_iload 1166 C 6 dL_law_1166 rfl ?_
  refine V_iconst 1168 C dL_law_1168 ic1 ?_
  refine V_iadd 1169 C dL_law_1169 ?_
  obtain ⟨c264, h⟩ := chk_some h
  refine V_sld 1170 C S dL_law_1170 c264 ?_
  obtain ⟨r267, M265, k266, h⟩ := bindM_some h
  refine V_callI 1171 (runVO (k := 119) (rest := []) 1171 C (kX12_shelfOfStop  k266) cf_X12_shelfOfStop wk_7_208 (ltl (by rfl) rfl) (ceR_X12 (by rfl)) rfl rfl rfl rfl dL_law_1171 rfl rfl (show c9 + _ ≤ 603072 by omega) (show s9 + _ ≤ 7182442 by omega)) ?_
  refine V_istore 1174 C [(7, .int r267), (6, .int r261), (0, .ref b), (1, .ref (gad G 0)), (2, .ref (gad G 119)), (3, .ref (gad G 129)), (4, .ref (gad G 130)), (5, .int v5)] dL_law_1174 rfl rfl ?_
  refine V_aload_n 1176 C 4 dL_law_1176 rfl ?_
  obtain ⟨r270, M268, k269, h⟩ := bindM_some h
  refine V_callI 1177 (runVO (k := 119) (rest := []) 1177 C (kX12_thrown  k269) cf_X12_thrown wk_6_124 (ltl (by rfl) rfl) (ceR_X12 (by rfl)) rfl rfl rfl rfl dL_law_1177 rfl rfl (show c9 + _ ≤ 603072 by omega) (show s9 + _ ≤ 7182442 by omega)) ?_
  refine V_iload 1180 C 1 dL_law_1180 rfl ?_
  refine V_icmp_eq 1182 1187 C dL_law_1182 (by decide) (fun c271 => ?_) (fun c271 => ?_)
  · replace h := ite_t c271 h
    refine V_iload 1187 C 1 dL_law_1187 rfl ?_
    refine V_if_ne 1189 1204 C dL_law_1189 (by decide) (fun c272 => ?_) (fun c272 => ?_)
    · replace h := ite_f c272 h
      refine V_goto 1204 2596 C dL_law_1204 (by decide) ?_
      refine V_sub [2, 3, 4, 5, 6, 7] rfl ?_
      exact V_wide (by omega) (by omega) (hk _ h)
    · replace h := ite_t c272 h
      refine V_aload_n 1192 C 5 dL_law_1192 rfl ?_
      refine V_iconst 1193 C dL_law_1193 ic0 ?_
      refine V_lald 1194 C dL_law_1194 (by rfl) ?_
      refine V_iload 1195 C 0 dL_law_1195 rfl ?_
      refine V_i2l 1197 C dL_law_1197 ?_
      refine V_lcmp 1198 C dL_law_1198 ?_
      refine V_if_eq 1199 1204 C dL_law_1199 (by decide) (fun c273 => ?_) (fun c273 => ?_)
      · replace h := ite_t c273 h
        refine V_goto 1204 2596 C dL_law_1204 (by decide) ?_
        refine V_sub [2, 3, 4, 5, 6, 7] rfl ?_
        exact V_wide (by omega) (by omega) (hk _ h)
      · replace h := ite_f c273 h
        refine V_iconst 1202 C dL_law_1202 ic0 ?_
        cases h
  · replace h := ite_f c271 h
    refine V_iconst 1185 C dL_law_1185 ic0 ?_
    cases h
set_option maxHeartbeats 4000000 in
theorem vL_law_1207 {G : GG} {κ : KK} {F b Ls : Nat} {xs : Nat → Int32} (C : Cx G κ cL_law "LarderPatrolLaw" ret 9 room_1) (S : CxS G κ b Ls xs) (T : κ.2.1.stackTraces = false) {c9 s9 : Nat} (hc : c9 + 3 ≤ 603072) (hs : s9 + 18 ≤ 7182442) {v5 : Int32} {kx : Mem → Option Bool} (hk : ∀ M : Mem, kx M = some true → V G κ 9 (c9 + 3) (s9 + 18) M 2596 [(0, .ref b), (1, .ref (gad G 0)), (2, .ref (gad G 119)), (3, .ref (gad G 129)), (4, .ref (gad G 130)), (5, .int v5)] []) : ∀ M : Mem, fL_law_1207 F Ls xs kx v5 M = some true → V G κ 9 c9 s9 M 1207 [(0, .ref b), (1, .ref (gad G 0)), (2, .ref (gad G 119)), (3, .ref (gad G 129)), (4, .ref (gad G 130)), (5, .int v5)] [] := by
  intro M h
  unfold fL_law_1207 at h
  refine V_wide (Nat.le_refl (c9 + 0)) (Nat.le_refl (s9 + 0)) ?_
  refine V_aload_n 1207 C 1 dL_law_1207 rfl ?_
  refine V_aload_n 1208 C 3 dL_law_1208 rfl ?_
  obtain ⟨r274, M275, k276, h⟩ := bindM_some h
  refine V_callH (mc := 1) (ms := 6) (rest := []) 1209 C (kL_catShelf T k276) ch_L_catShelf wk_4_238 rfl rfl dL_law_1209 rfl rfl (show c9 + _ + _ ≤ 603072 by omega) (show s9 + _ + _ ≤ 7182442 by omega) ?_
  refine V_istore 1212 C [(6, .int r274), (0, .ref b), (1, .ref (gad G 0)), (2, .ref (gad G 119)), (3, .ref (gad G 129)), (4, .ref (gad G 130)), (5, .int v5)] dL_law_1212 rfl rfl ?_
  refine V_aload_n 1214 C 3 dL_law_1214 rfl ?_
  obtain ⟨r279, M277, k278, h⟩ := bindM_some h
  refine V_callI 1215 (runVO (k := 119) (rest := []) 1215 C (kX12_catShelf  k278) cf_X12_catShelf wk_7_212 (ltl (by rfl) rfl) (ceR_X12 (by rfl)) rfl rfl rfl rfl dL_law_1215 rfl rfl (show c9 + _ ≤ 603072 by omega) (show s9 + _ ≤ 7182442 by omega)) ?_
  refine V_istore 1218 C [(7, .int r279), (6, .int r274), (0, .ref b), (1, .ref (gad G 0)), (2, .ref (gad G 119)), (3, .ref (gad G 129)), (4, .ref (gad G 130)), (5, .int v5)] dL_law_1218 rfl rfl ?_
  refine V_aload_n 1220 C 4 dL_law_1220 rfl ?_
  obtain ⟨r282, M280, k281, h⟩ := bindM_some h
  refine V_callI 1221 (runVO (k := 119) (rest := []) 1221 C (kX12_thrown  k281) cf_X12_thrown wk_6_124 (ltl (by rfl) rfl) (ceR_X12 (by rfl)) rfl rfl rfl rfl dL_law_1221 rfl rfl (show c9 + _ ≤ 603072 by omega) (show s9 + _ ≤ 7182442 by omega)) ?_
  refine V_iload 1224 C 1 dL_law_1224 rfl ?_
  refine V_icmp_eq 1226 1231 C dL_law_1226 (by decide) (fun c283 => ?_) (fun c283 => ?_)
  · replace h := ite_t c283 h
    refine V_iload 1231 C 1 dL_law_1231 rfl ?_
    refine V_if_ne 1233 1248 C dL_law_1233 (by decide) (fun c284 => ?_) (fun c284 => ?_)
    · replace h := ite_f c284 h
      refine V_goto 1248 2596 C dL_law_1248 (by decide) ?_
      refine V_sub [2, 3, 4, 5, 6, 7] rfl ?_
      exact V_wide (by omega) (by omega) (hk _ h)
    · replace h := ite_t c284 h
      refine V_aload_n 1236 C 5 dL_law_1236 rfl ?_
      refine V_iconst 1237 C dL_law_1237 ic0 ?_
      refine V_lald 1238 C dL_law_1238 (by rfl) ?_
      refine V_iload 1239 C 0 dL_law_1239 rfl ?_
      refine V_i2l 1241 C dL_law_1241 ?_
      refine V_lcmp 1242 C dL_law_1242 ?_
      refine V_if_eq 1243 1248 C dL_law_1243 (by decide) (fun c285 => ?_) (fun c285 => ?_)
      · replace h := ite_t c285 h
        refine V_goto 1248 2596 C dL_law_1248 (by decide) ?_
        refine V_sub [2, 3, 4, 5, 6, 7] rfl ?_
        exact V_wide (by omega) (by omega) (hk _ h)
      · replace h := ite_f c285 h
        refine V_iconst 1246 C dL_law_1246 ic0 ?_
        cases h
  · replace h := ite_f c283 h
    refine V_iconst 1229 C dL_law_1229 ic0 ?_
    cases h
set_option maxHeartbeats 4000000 in
theorem vL_law_1251 {G : GG} {κ : KK} {F b Ls : Nat} {xs : Nat → Int32} (C : Cx G κ cL_law "LarderPatrolLaw" ret 9 room_1) (S : CxS G κ b Ls xs) (T : κ.2.1.stackTraces = false) {c9 s9 : Nat} (hc : c9 + 3 ≤ 603072) (hs : s9 + 18 ≤ 7182442) {v5 : Int32} {kx : Mem → Option Bool} (hk : ∀ M : Mem, kx M = some true → V G κ 9 (c9 + 3) (s9 + 18) M 2596 [(0, .ref b), (1, .ref (gad G 0)), (2, .ref (gad G 119)), (3, .ref (gad G 129)), (4, .ref (gad G 130)), (5, .int v5)] []) : ∀ M : Mem, fL_law_1251 F Ls xs kx v5 M = some true → V G κ 9 c9 s9 M 1251 [(0, .ref b), (1, .ref (gad G 0)), (2, .ref (gad G 119)), (3, .ref (gad G 129)), (4, .ref (gad G 130)), (5, .int v5)] [] := by
  intro M h
  unfold fL_law_1251 at h
  refine V_wide (Nat.le_refl (c9 + 0)) (Nat.le_refl (s9 + 0)) ?_
  refine V_aload_n 1251 C 1 dL_law_1251 rfl ?_
  refine V_aload_n 1252 C 3 dL_law_1252 rfl ?_
  obtain ⟨r286, M287, k288, h⟩ := bindM_some h
  refine V_callH (mc := 1) (ms := 6) (rest := []) 1253 C (kL_goal T k288) ch_L_goal wk_5_10 rfl rfl dL_law_1253 rfl rfl (show c9 + _ + _ ≤ 603072 by omega) (show s9 + _ + _ ≤ 7182442 by omega) ?_
  refine V_istore 1256 C [(6, .int r286), (0, .ref b), (1, .ref (gad G 0)), (2, .ref (gad G 119)), (3, .ref (gad G 129)), (4, .ref (gad G 130)), (5, .int v5)] dL_law_1256 rfl rfl ?_
  refine V_aload_n 1258 C 3 dL_law_1258 rfl ?_
  obtain ⟨r291, M289, k290, h⟩ := bindM_some h
  refine V_callI 1259 (runVO (k := 119) (rest := []) 1259 C (kX12_goal  k290) cf_X12_goal wk_7_216 (ltl (by rfl) rfl) (ceR_X12 (by rfl)) rfl rfl rfl rfl dL_law_1259 rfl rfl (show c9 + _ ≤ 603072 by omega) (show s9 + _ ≤ 7182442 by omega)) ?_
  refine V_istore 1262 C [(7, .int r291), (6, .int r286), (0, .ref b), (1, .ref (gad G 0)), (2, .ref (gad G 119)), (3, .ref (gad G 129)), (4, .ref (gad G 130)), (5, .int v5)] dL_law_1262 rfl rfl ?_
  refine V_aload_n 1264 C 4 dL_law_1264 rfl ?_
  obtain ⟨r294, M292, k293, h⟩ := bindM_some h
  refine V_callI 1265 (runVO (k := 119) (rest := []) 1265 C (kX12_thrown  k293) cf_X12_thrown wk_6_124 (ltl (by rfl) rfl) (ceR_X12 (by rfl)) rfl rfl rfl rfl dL_law_1265 rfl rfl (show c9 + _ ≤ 603072 by omega) (show s9 + _ ≤ 7182442 by omega)) ?_
  refine V_iload 1268 C 1 dL_law_1268 rfl ?_
  refine V_icmp_eq 1270 1275 C dL_law_1270 (by decide) (fun c295 => ?_) (fun c295 => ?_)
  · replace h := ite_t c295 h
    refine V_iload 1275 C 1 dL_law_1275 rfl ?_
    refine V_if_ne 1277 1292 C dL_law_1277 (by decide) (fun c296 => ?_) (fun c296 => ?_)
    · replace h := ite_f c296 h
      refine V_goto 1292 2596 C dL_law_1292 (by decide) ?_
      refine V_sub [2, 3, 4, 5, 6, 7] rfl ?_
      exact V_wide (by omega) (by omega) (hk _ h)
    · replace h := ite_t c296 h
      refine V_aload_n 1280 C 5 dL_law_1280 rfl ?_
      refine V_iconst 1281 C dL_law_1281 ic0 ?_
      refine V_lald 1282 C dL_law_1282 (by rfl) ?_
      refine V_iload 1283 C 0 dL_law_1283 rfl ?_
      refine V_i2l 1285 C dL_law_1285 ?_
      refine V_lcmp 1286 C dL_law_1286 ?_
      refine V_if_eq 1287 1292 C dL_law_1287 (by decide) (fun c297 => ?_) (fun c297 => ?_)
      · replace h := ite_t c297 h
        refine V_goto 1292 2596 C dL_law_1292 (by decide) ?_
        refine V_sub [2, 3, 4, 5, 6, 7] rfl ?_
        exact V_wide (by omega) (by omega) (hk _ h)
      · replace h := ite_f c297 h
        refine V_iconst 1290 C dL_law_1290 ic0 ?_
        cases h
  · replace h := ite_f c295 h
    refine V_iconst 1273 C dL_law_1273 ic0 ?_
    cases h
set_option maxHeartbeats 4000000 in
theorem vL_law_1295 {G : GG} {κ : KK} {F b Ls : Nat} {xs : Nat → Int32} (C : Cx G κ cL_law "LarderPatrolLaw" ret 9 room_1) (S : CxS G κ b Ls xs) (T : κ.2.1.stackTraces = false) {c9 s9 : Nat} (hc : c9 + 3 ≤ 603072) (hs : s9 + 18 ≤ 7182442) {v5 : Int32} {kx : Mem → Option Bool} (hk : ∀ M : Mem, kx M = some true → V G κ 9 (c9 + 3) (s9 + 18) M 2596 [(0, .ref b), (1, .ref (gad G 0)), (2, .ref (gad G 119)), (3, .ref (gad G 129)), (4, .ref (gad G 130)), (5, .int v5)] []) : ∀ M : Mem, fL_law_1295 F Ls xs kx v5 M = some true → V G κ 9 c9 s9 M 1295 [(0, .ref b), (1, .ref (gad G 0)), (2, .ref (gad G 119)), (3, .ref (gad G 129)), (4, .ref (gad G 130)), (5, .int v5)] [] := by
  intro M h
  unfold fL_law_1295 at h
  refine V_wide (Nat.le_refl (c9 + 0)) (Nat.le_refl (s9 + 0)) ?_
  refine V_aload_n 1295 C 1 dL_law_1295 rfl ?_
  refine V_aload_n 1296 C 3 dL_law_1296 rfl ?_
  obtain ⟨r298, M299, k300, h⟩ := bindM_some h
  refine V_callH (mc := 1) (ms := 6) (rest := []) 1297 C (kL_nextShelf T k300) ch_L_nextShelf wk_5_18 rfl rfl dL_law_1297 rfl rfl (show c9 + _ + _ ≤ 603072 by omega) (show s9 + _ + _ ≤ 7182442 by omega) ?_
  refine V_istore 1300 C [(6, .int r298), (0, .ref b), (1, .ref (gad G 0)), (2, .ref (gad G 119)), (3, .ref (gad G 129)), (4, .ref (gad G 130)), (5, .int v5)] dL_law_1300 rfl rfl ?_
  refine V_aload_n 1302 C 3 dL_law_1302 rfl ?_
  obtain ⟨r303, M301, k302, h⟩ := bindM_some h
  refine V_callI 1303 (runVO (k := 119) (rest := []) 1303 C (kX12_nextShelf  k302) cf_X12_nextShelf wk_7_220 (ltl (by rfl) rfl) (ceR_X12 (by rfl)) rfl rfl rfl rfl dL_law_1303 rfl rfl (show c9 + _ ≤ 603072 by omega) (show s9 + _ ≤ 7182442 by omega)) ?_
  refine V_istore 1306 C [(7, .int r303), (6, .int r298), (0, .ref b), (1, .ref (gad G 0)), (2, .ref (gad G 119)), (3, .ref (gad G 129)), (4, .ref (gad G 130)), (5, .int v5)] dL_law_1306 rfl rfl ?_
  refine V_aload_n 1308 C 4 dL_law_1308 rfl ?_
  obtain ⟨r306, M304, k305, h⟩ := bindM_some h
  refine V_callI 1309 (runVO (k := 119) (rest := []) 1309 C (kX12_thrown  k305) cf_X12_thrown wk_6_124 (ltl (by rfl) rfl) (ceR_X12 (by rfl)) rfl rfl rfl rfl dL_law_1309 rfl rfl (show c9 + _ ≤ 603072 by omega) (show s9 + _ ≤ 7182442 by omega)) ?_
  refine V_iload 1312 C 1 dL_law_1312 rfl ?_
  refine V_icmp_eq 1314 1319 C dL_law_1314 (by decide) (fun c307 => ?_) (fun c307 => ?_)
  · replace h := ite_t c307 h
    refine V_iload 1319 C 1 dL_law_1319 rfl ?_
    refine V_if_ne 1321 1336 C dL_law_1321 (by decide) (fun c308 => ?_) (fun c308 => ?_)
    · replace h := ite_f c308 h
      refine V_goto 1336 2596 C dL_law_1336 (by decide) ?_
      refine V_sub [2, 3, 4, 5, 6, 7] rfl ?_
      exact V_wide (by omega) (by omega) (hk _ h)
    · replace h := ite_t c308 h
      refine V_aload_n 1324 C 5 dL_law_1324 rfl ?_
      refine V_iconst 1325 C dL_law_1325 ic0 ?_
      refine V_lald 1326 C dL_law_1326 (by rfl) ?_
      refine V_iload 1327 C 0 dL_law_1327 rfl ?_
      refine V_i2l 1329 C dL_law_1329 ?_
      refine V_lcmp 1330 C dL_law_1330 ?_
      refine V_if_eq 1331 1336 C dL_law_1331 (by decide) (fun c309 => ?_) (fun c309 => ?_)
      · replace h := ite_t c309 h
        refine V_goto 1336 2596 C dL_law_1336 (by decide) ?_
        refine V_sub [2, 3, 4, 5, 6, 7] rfl ?_
        exact V_wide (by omega) (by omega) (hk _ h)
      · replace h := ite_f c309 h
        refine V_iconst 1334 C dL_law_1334 ic0 ?_
        cases h
  · replace h := ite_f c307 h
    refine V_iconst 1317 C dL_law_1317 ic0 ?_
    cases h
set_option maxHeartbeats 4000000 in
theorem vL_law_1339 {G : GG} {κ : KK} {F b Ls : Nat} {xs : Nat → Int32} (C : Cx G κ cL_law "LarderPatrolLaw" ret 9 room_1) (S : CxS G κ b Ls xs) (T : κ.2.1.stackTraces = false) {c9 s9 : Nat} (hc : c9 + 3 ≤ 603072) (hs : s9 + 18 ≤ 7182442) {v5 : Int32} {kx : Mem → Option Bool} (hk : ∀ M : Mem, kx M = some true → V G κ 9 (c9 + 3) (s9 + 18) M 2596 [(0, .ref b), (1, .ref (gad G 0)), (2, .ref (gad G 119)), (3, .ref (gad G 129)), (4, .ref (gad G 130)), (5, .int v5)] []) : ∀ M : Mem, fL_law_1339 F Ls xs kx v5 M = some true → V G κ 9 c9 s9 M 1339 [(0, .ref b), (1, .ref (gad G 0)), (2, .ref (gad G 119)), (3, .ref (gad G 129)), (4, .ref (gad G 130)), (5, .int v5)] [] := by
  intro M h
  unfold fL_law_1339 at h
  refine V_wide (Nat.le_refl (c9 + 0)) (Nat.le_refl (s9 + 0)) ?_
  refine V_aload_n 1339 C 1 dL_law_1339 rfl ?_
  refine V_aload_n 1340 C 3 dL_law_1340 rfl ?_
  obtain ⟨r310, M311, k312, h⟩ := bindM_some h
  refine V_callH (mc := 1) (ms := 6) (rest := []) 1341 C (kL_lapLength T k312) ch_L_lapLength wk_5_26 rfl rfl dL_law_1341 rfl rfl (show c9 + _ + _ ≤ 603072 by omega) (show s9 + _ + _ ≤ 7182442 by omega) ?_
  refine V_istore 1344 C [(6, .int r310), (0, .ref b), (1, .ref (gad G 0)), (2, .ref (gad G 119)), (3, .ref (gad G 129)), (4, .ref (gad G 130)), (5, .int v5)] dL_law_1344 rfl rfl ?_
  refine V_aload_n 1346 C 3 dL_law_1346 rfl ?_
  obtain ⟨r315, M313, k314, h⟩ := bindM_some h
  refine V_callI 1347 (runVO (k := 119) (rest := []) 1347 C (kX12_lapLength  k314) cf_X12_lapLength wk_7_224 (ltl (by rfl) rfl) (ceR_X12 (by rfl)) rfl rfl rfl rfl dL_law_1347 rfl rfl (show c9 + _ ≤ 603072 by omega) (show s9 + _ ≤ 7182442 by omega)) ?_
  refine V_istore 1350 C [(7, .int r315), (6, .int r310), (0, .ref b), (1, .ref (gad G 0)), (2, .ref (gad G 119)), (3, .ref (gad G 129)), (4, .ref (gad G 130)), (5, .int v5)] dL_law_1350 rfl rfl ?_
  refine V_aload_n 1352 C 4 dL_law_1352 rfl ?_
  obtain ⟨r318, M316, k317, h⟩ := bindM_some h
  refine V_callI 1353 (runVO (k := 119) (rest := []) 1353 C (kX12_thrown  k317) cf_X12_thrown wk_6_124 (ltl (by rfl) rfl) (ceR_X12 (by rfl)) rfl rfl rfl rfl dL_law_1353 rfl rfl (show c9 + _ ≤ 603072 by omega) (show s9 + _ ≤ 7182442 by omega)) ?_
  refine V_iload 1356 C 1 dL_law_1356 rfl ?_
  refine V_icmp_eq 1358 1363 C dL_law_1358 (by decide) (fun c319 => ?_) (fun c319 => ?_)
  · replace h := ite_t c319 h
    refine V_iload 1363 C 1 dL_law_1363 rfl ?_
    refine V_if_ne 1365 1380 C dL_law_1365 (by decide) (fun c320 => ?_) (fun c320 => ?_)
    · replace h := ite_f c320 h
      refine V_goto 1380 2596 C dL_law_1380 (by decide) ?_
      refine V_sub [2, 3, 4, 5, 6, 7] rfl ?_
      exact V_wide (by omega) (by omega) (hk _ h)
    · replace h := ite_t c320 h
      refine V_aload_n 1368 C 5 dL_law_1368 rfl ?_
      refine V_iconst 1369 C dL_law_1369 ic0 ?_
      refine V_lald 1370 C dL_law_1370 (by rfl) ?_
      refine V_iload 1371 C 0 dL_law_1371 rfl ?_
      refine V_i2l 1373 C dL_law_1373 ?_
      refine V_lcmp 1374 C dL_law_1374 ?_
      refine V_if_eq 1375 1380 C dL_law_1375 (by decide) (fun c321 => ?_) (fun c321 => ?_)
      · replace h := ite_t c321 h
        refine V_goto 1380 2596 C dL_law_1380 (by decide) ?_
        refine V_sub [2, 3, 4, 5, 6, 7] rfl ?_
        exact V_wide (by omega) (by omega) (hk _ h)
      · replace h := ite_f c321 h
        refine V_iconst 1378 C dL_law_1378 ic0 ?_
        cases h
  · replace h := ite_f c319 h
    refine V_iconst 1361 C dL_law_1361 ic0 ?_
    cases h
set_option maxHeartbeats 4000000 in
theorem vL_law_1383 {G : GG} {κ : KK} {F b Ls : Nat} {xs : Nat → Int32} (C : Cx G κ cL_law "LarderPatrolLaw" ret 9 room_1) (S : CxS G κ b Ls xs) (T : κ.2.1.stackTraces = false) {c9 s9 : Nat} (hc : c9 + 3 ≤ 603072) (hs : s9 + 18 ≤ 7182442) {v5 : Int32} {kx : Mem → Option Bool} (hk : ∀ M : Mem, kx M = some true → V G κ 9 (c9 + 3) (s9 + 18) M 2596 [(0, .ref b), (1, .ref (gad G 0)), (2, .ref (gad G 119)), (3, .ref (gad G 129)), (4, .ref (gad G 130)), (5, .int v5)] []) : ∀ M : Mem, fL_law_1383 F Ls xs kx v5 M = some true → V G κ 9 c9 s9 M 1383 [(0, .ref b), (1, .ref (gad G 0)), (2, .ref (gad G 119)), (3, .ref (gad G 129)), (4, .ref (gad G 130)), (5, .int v5)] [] := by
  intro M h
  unfold fL_law_1383 at h
  refine V_wide (Nat.le_refl (c9 + 0)) (Nat.le_refl (s9 + 0)) ?_
  refine V_aload_n 1383 C 1 dL_law_1383 rfl ?_
  refine V_aload_n 1384 C 0 dL_law_1384 rfl ?_
  refine V_iload 1385 C 5 dL_law_1385 rfl ?_
  refine V_iconst 1387 C dL_law_1387 ic1 ?_
  refine V_iadd 1388 C dL_law_1388 ?_
  obtain ⟨c322, h⟩ := chk_some h
  refine V_sld 1389 C S dL_law_1389 c322 ?_
  refine V_aload_n 1390 C 3 dL_law_1390 rfl ?_
  obtain ⟨r323, M324, k325, h⟩ := bindM_some h
  refine V_callH (mc := 1) (ms := 6) (rest := []) 1391 C (kL_pass T k325) ch_L_pass wk_5_40 rfl rfl dL_law_1391 rfl rfl (show c9 + _ + _ ≤ 603072 by omega) (show s9 + _ + _ ≤ 7182442 by omega) ?_
  refine V_istore 1394 C [(6, .int r323), (0, .ref b), (1, .ref (gad G 0)), (2, .ref (gad G 119)), (3, .ref (gad G 129)), (4, .ref (gad G 130)), (5, .int v5)] dL_law_1394 rfl rfl ?_
  refine V_aload_n 1396 C 3 dL_law_1396 rfl ?_
  refine V_aload_n 1397 C 1 dL_law_1397 rfl ?_
  refine V_iload 1398 C 6 dL_law_1398 rfl ?_
  refine V_iconst 1400 C dL_law_1400 ic1 ?_
  refine V_iadd 1401 C dL_law_1401 ?_
  obtain ⟨c326, h⟩ := chk_some h
  refine V_sld 1402 C S dL_law_1402 c326 ?_
  obtain ⟨r329, M327, k328, h⟩ := bindM_some h
  refine V_callI 1403 (runVO (k := 119) (rest := []) 1403 C (kX12_pass  k328) cf_X12_pass wk_7_90 (ltl (by rfl) rfl) (ceR_X12 (by rfl)) rfl rfl rfl rfl dL_law_1403 rfl rfl (show c9 + _ ≤ 603072 by omega) (show s9 + _ ≤ 7182442 by omega)) ?_
  refine V_istore 1406 C [(7, .int r329), (6, .int r323), (0, .ref b), (1, .ref (gad G 0)), (2, .ref (gad G 119)), (3, .ref (gad G 129)), (4, .ref (gad G 130)), (5, .int v5)] dL_law_1406 rfl rfl ?_
  refine V_aload_n 1408 C 4 dL_law_1408 rfl ?_
  obtain ⟨r332, M330, k331, h⟩ := bindM_some h
  refine V_callI 1409 (runVO (k := 119) (rest := []) 1409 C (kX12_thrown  k331) cf_X12_thrown wk_6_124 (ltl (by rfl) rfl) (ceR_X12 (by rfl)) rfl rfl rfl rfl dL_law_1409 rfl rfl (show c9 + _ ≤ 603072 by omega) (show s9 + _ ≤ 7182442 by omega)) ?_
  refine V_iload 1412 C 1 dL_law_1412 rfl ?_
  refine V_icmp_eq 1414 1419 C dL_law_1414 (by decide) (fun c333 => ?_) (fun c333 => ?_)
  · replace h := ite_t c333 h
    refine V_iload 1419 C 1 dL_law_1419 rfl ?_
    refine V_if_ne 1421 1436 C dL_law_1421 (by decide) (fun c334 => ?_) (fun c334 => ?_)
    · replace h := ite_f c334 h
      refine V_goto 1436 2596 C dL_law_1436 (by decide) ?_
      refine V_sub [2, 3, 4, 5, 6, 7] rfl ?_
      exact V_wide (by omega) (by omega) (hk _ h)
    · replace h := ite_t c334 h
      refine V_aload_n 1424 C 5 dL_law_1424 rfl ?_
      refine V_iconst 1425 C dL_law_1425 ic0 ?_
      refine V_lald 1426 C dL_law_1426 (by rfl) ?_
      refine V_iload 1427 C 0 dL_law_1427 rfl ?_
      refine V_i2l 1429 C dL_law_1429 ?_
      refine V_lcmp 1430 C dL_law_1430 ?_
      refine V_if_eq 1431 1436 C dL_law_1431 (by decide) (fun c335 => ?_) (fun c335 => ?_)
      · replace h := ite_t c335 h
        refine V_goto 1436 2596 C dL_law_1436 (by decide) ?_
        refine V_sub [2, 3, 4, 5, 6, 7] rfl ?_
        exact V_wide (by omega) (by omega) (hk _ h)
      · replace h := ite_f c335 h
        refine V_iconst 1434 C dL_law_1434 ic0 ?_
        cases h
  · replace h := ite_f c333 h
    refine V_iconst 1417 C dL_law_1417 ic0 ?_
    cases h
set_option maxHeartbeats 4000000 in
theorem vL_law_1439 {G : GG} {κ : KK} {F b Ls : Nat} {xs : Nat → Int32} (C : Cx G κ cL_law "LarderPatrolLaw" ret 9 room_1) (S : CxS G κ b Ls xs) (T : κ.2.1.stackTraces = false) {c9 s9 : Nat} (hc : c9 + 3 ≤ 603072) (hs : s9 + 18 ≤ 7182442) {v5 : Int32} {kx : Mem → Option Bool} (hk : ∀ M : Mem, kx M = some true → V G κ 9 (c9 + 3) (s9 + 18) M 2596 [(0, .ref b), (1, .ref (gad G 0)), (2, .ref (gad G 119)), (3, .ref (gad G 129)), (4, .ref (gad G 130)), (5, .int v5)] []) : ∀ M : Mem, fL_law_1439 F Ls xs kx v5 M = some true → V G κ 9 c9 s9 M 1439 [(0, .ref b), (1, .ref (gad G 0)), (2, .ref (gad G 119)), (3, .ref (gad G 129)), (4, .ref (gad G 130)), (5, .int v5)] [] := by
  intro M h
  unfold fL_law_1439 at h
  refine V_wide (Nat.le_refl (c9 + 0)) (Nat.le_refl (s9 + 0)) ?_
  refine V_aload_n 1439 C 1 dL_law_1439 rfl ?_
  refine V_aload_n 1440 C 0 dL_law_1440 rfl ?_
  refine V_iload 1441 C 5 dL_law_1441 rfl ?_
  refine V_iconst 1443 C dL_law_1443 ic1 ?_
  refine V_iadd 1444 C dL_law_1444 ?_
  obtain ⟨c336, h⟩ := chk_some h
  refine V_sld 1445 C S dL_law_1445 c336 ?_
  refine V_aload_n 1446 C 3 dL_law_1446 rfl ?_
  obtain ⟨r337, M338, k339, h⟩ := bindM_some h
  refine V_callH (mc := 1) (ms := 6) (rest := []) 1447 C (kL_predictCaught T k339) ch_L_predictCaught wk_5_49 rfl rfl dL_law_1447 rfl rfl (show c9 + _ + _ ≤ 603072 by omega) (show s9 + _ + _ ≤ 7182442 by omega) ?_
  refine V_istore 1450 C [(6, .int r337), (0, .ref b), (1, .ref (gad G 0)), (2, .ref (gad G 119)), (3, .ref (gad G 129)), (4, .ref (gad G 130)), (5, .int v5)] dL_law_1450 rfl rfl ?_
  refine V_aload_n 1452 C 3 dL_law_1452 rfl ?_
  refine V_aload_n 1453 C 1 dL_law_1453 rfl ?_
  refine V_iload 1454 C 6 dL_law_1454 rfl ?_
  refine V_iconst 1456 C dL_law_1456 ic1 ?_
  refine V_iadd 1457 C dL_law_1457 ?_
  obtain ⟨c340, h⟩ := chk_some h
  refine V_sld 1458 C S dL_law_1458 c340 ?_
  obtain ⟨r343, M341, k342, h⟩ := bindM_some h
  refine V_callI 1459 (runVO (k := 119) (rest := []) 1459 C (kX12_predictCaught  k342) cf_X12_predictCaught wk_7_141 (ltl (by rfl) rfl) (ceR_X12 (by rfl)) rfl rfl rfl rfl dL_law_1459 rfl rfl (show c9 + _ ≤ 603072 by omega) (show s9 + _ ≤ 7182442 by omega)) ?_
  refine V_istore 1462 C [(7, .int r343), (6, .int r337), (0, .ref b), (1, .ref (gad G 0)), (2, .ref (gad G 119)), (3, .ref (gad G 129)), (4, .ref (gad G 130)), (5, .int v5)] dL_law_1462 rfl rfl ?_
  refine V_aload_n 1464 C 4 dL_law_1464 rfl ?_
  obtain ⟨r346, M344, k345, h⟩ := bindM_some h
  refine V_callI 1465 (runVO (k := 119) (rest := []) 1465 C (kX12_thrown  k345) cf_X12_thrown wk_6_124 (ltl (by rfl) rfl) (ceR_X12 (by rfl)) rfl rfl rfl rfl dL_law_1465 rfl rfl (show c9 + _ ≤ 603072 by omega) (show s9 + _ ≤ 7182442 by omega)) ?_
  refine V_iload 1468 C 1 dL_law_1468 rfl ?_
  refine V_icmp_eq 1470 1475 C dL_law_1470 (by decide) (fun c347 => ?_) (fun c347 => ?_)
  · replace h := ite_t c347 h
    refine V_iload 1475 C 1 dL_law_1475 rfl ?_
    refine V_if_ne 1477 1492 C dL_law_1477 (by decide) (fun c348 => ?_) (fun c348 => ?_)
    · replace h := ite_f c348 h
      refine V_goto 1492 2596 C dL_law_1492 (by decide) ?_
      refine V_sub [2, 3, 4, 5, 6, 7] rfl ?_
      exact V_wide (by omega) (by omega) (hk _ h)
    · replace h := ite_t c348 h
      refine V_aload_n 1480 C 5 dL_law_1480 rfl ?_
      refine V_iconst 1481 C dL_law_1481 ic0 ?_
      refine V_lald 1482 C dL_law_1482 (by rfl) ?_
      refine V_iload 1483 C 0 dL_law_1483 rfl ?_
      refine V_i2l 1485 C dL_law_1485 ?_
      refine V_lcmp 1486 C dL_law_1486 ?_
      refine V_if_eq 1487 1492 C dL_law_1487 (by decide) (fun c349 => ?_) (fun c349 => ?_)
      · replace h := ite_t c349 h
        refine V_goto 1492 2596 C dL_law_1492 (by decide) ?_
        refine V_sub [2, 3, 4, 5, 6, 7] rfl ?_
        exact V_wide (by omega) (by omega) (hk _ h)
      · replace h := ite_f c349 h
        refine V_iconst 1490 C dL_law_1490 ic0 ?_
        cases h
  · replace h := ite_f c347 h
    refine V_iconst 1473 C dL_law_1473 ic0 ?_
    cases h
set_option maxHeartbeats 4000000 in
theorem vL_law_1495 {G : GG} {κ : KK} {F b Ls : Nat} {xs : Nat → Int32} (C : Cx G κ cL_law "LarderPatrolLaw" ret 9 room_1) (S : CxS G κ b Ls xs) (T : κ.2.1.stackTraces = false) {c9 s9 : Nat} (hc : c9 + 3 ≤ 603072) (hs : s9 + 18 ≤ 7182442) {v5 : Int32} {kx : Mem → Option Bool} (hk : ∀ M : Mem, kx M = some true → V G κ 9 (c9 + 3) (s9 + 18) M 2596 [(0, .ref b), (1, .ref (gad G 0)), (2, .ref (gad G 119)), (3, .ref (gad G 129)), (4, .ref (gad G 130)), (5, .int v5)] []) : ∀ M : Mem, fL_law_1495 F Ls xs kx v5 M = some true → V G κ 9 c9 s9 M 1495 [(0, .ref b), (1, .ref (gad G 0)), (2, .ref (gad G 119)), (3, .ref (gad G 129)), (4, .ref (gad G 130)), (5, .int v5)] [] := by
  intro M h
  unfold fL_law_1495 at h
  refine V_wide (Nat.le_refl (c9 + 0)) (Nat.le_refl (s9 + 0)) ?_
  refine V_aload_n 1495 C 1 dL_law_1495 rfl ?_
  refine V_aload_n 1496 C 0 dL_law_1496 rfl ?_
  refine V_iload 1497 C 5 dL_law_1497 rfl ?_
  refine V_iconst 1499 C dL_law_1499 ic1 ?_
  refine V_iadd 1500 C dL_law_1500 ?_
  obtain ⟨c350, h⟩ := chk_some h
  refine V_sld 1501 C S dL_law_1501 c350 ?_
  refine V_aload_n 1502 C 3 dL_law_1502 rfl ?_
  obtain ⟨r351, M352, k353, h⟩ := bindM_some h
  refine V_callH (mc := 1) (ms := 6) (rest := []) 1503 C (kL_setRate T k353) ch_L_setRate wk_5_58 rfl rfl dL_law_1503 rfl rfl (show c9 + _ + _ ≤ 603072 by omega) (show s9 + _ + _ ≤ 7182442 by omega) ?_
  refine V_istore 1506 C [(6, .int r351), (0, .ref b), (1, .ref (gad G 0)), (2, .ref (gad G 119)), (3, .ref (gad G 129)), (4, .ref (gad G 130)), (5, .int v5)] dL_law_1506 rfl rfl ?_
  refine V_aload_n 1508 C 3 dL_law_1508 rfl ?_
  refine V_aload_n 1509 C 1 dL_law_1509 rfl ?_
  refine V_iload 1510 C 6 dL_law_1510 rfl ?_
  refine V_iconst 1512 C dL_law_1512 ic1 ?_
  refine V_iadd 1513 C dL_law_1513 ?_
  obtain ⟨c354, h⟩ := chk_some h
  refine V_sld 1514 C S dL_law_1514 c354 ?_
  obtain ⟨r357, M355, k356, h⟩ := bindM_some h
  refine V_callI 1515 (runVO (k := 119) (rest := []) 1515 C (kX12_setRate  k356) cf_X12_setRate wk_7_145 (ltl (by rfl) rfl) (ceR_X12 (by rfl)) rfl rfl rfl rfl dL_law_1515 rfl rfl (show c9 + _ ≤ 603072 by omega) (show s9 + _ ≤ 7182442 by omega)) ?_
  refine V_istore 1518 C [(7, .int r357), (6, .int r351), (0, .ref b), (1, .ref (gad G 0)), (2, .ref (gad G 119)), (3, .ref (gad G 129)), (4, .ref (gad G 130)), (5, .int v5)] dL_law_1518 rfl rfl ?_
  refine V_aload_n 1520 C 4 dL_law_1520 rfl ?_
  obtain ⟨r360, M358, k359, h⟩ := bindM_some h
  refine V_callI 1521 (runVO (k := 119) (rest := []) 1521 C (kX12_thrown  k359) cf_X12_thrown wk_6_124 (ltl (by rfl) rfl) (ceR_X12 (by rfl)) rfl rfl rfl rfl dL_law_1521 rfl rfl (show c9 + _ ≤ 603072 by omega) (show s9 + _ ≤ 7182442 by omega)) ?_
  refine V_iload 1524 C 1 dL_law_1524 rfl ?_
  refine V_icmp_eq 1526 1531 C dL_law_1526 (by decide) (fun c361 => ?_) (fun c361 => ?_)
  · replace h := ite_t c361 h
    refine V_iload 1531 C 1 dL_law_1531 rfl ?_
    refine V_if_ne 1533 1548 C dL_law_1533 (by decide) (fun c362 => ?_) (fun c362 => ?_)
    · replace h := ite_f c362 h
      refine V_goto 1548 2596 C dL_law_1548 (by decide) ?_
      refine V_sub [2, 3, 4, 5, 6, 7] rfl ?_
      exact V_wide (by omega) (by omega) (hk _ h)
    · replace h := ite_t c362 h
      refine V_aload_n 1536 C 5 dL_law_1536 rfl ?_
      refine V_iconst 1537 C dL_law_1537 ic0 ?_
      refine V_lald 1538 C dL_law_1538 (by rfl) ?_
      refine V_iload 1539 C 0 dL_law_1539 rfl ?_
      refine V_i2l 1541 C dL_law_1541 ?_
      refine V_lcmp 1542 C dL_law_1542 ?_
      refine V_if_eq 1543 1548 C dL_law_1543 (by decide) (fun c363 => ?_) (fun c363 => ?_)
      · replace h := ite_t c363 h
        refine V_goto 1548 2596 C dL_law_1548 (by decide) ?_
        refine V_sub [2, 3, 4, 5, 6, 7] rfl ?_
        exact V_wide (by omega) (by omega) (hk _ h)
      · replace h := ite_f c363 h
        refine V_iconst 1546 C dL_law_1546 ic0 ?_
        cases h
  · replace h := ite_f c361 h
    refine V_iconst 1529 C dL_law_1529 ic0 ?_
    cases h
set_option maxHeartbeats 4000000 in
theorem vL_law_1551 {G : GG} {κ : KK} {F b Ls : Nat} {xs : Nat → Int32} (C : Cx G κ cL_law "LarderPatrolLaw" ret 9 room_1) (S : CxS G κ b Ls xs) (T : κ.2.1.stackTraces = false) {c9 s9 : Nat} (hc : c9 + 3 ≤ 603072) (hs : s9 + 18 ≤ 7182442) {v5 : Int32} {kx : Mem → Option Bool} (hk : ∀ M : Mem, kx M = some true → V G κ 9 (c9 + 3) (s9 + 18) M 2596 [(0, .ref b), (1, .ref (gad G 0)), (2, .ref (gad G 119)), (3, .ref (gad G 129)), (4, .ref (gad G 130)), (5, .int v5)] []) : ∀ M : Mem, fL_law_1551 F Ls xs kx v5 M = some true → V G κ 9 c9 s9 M 1551 [(0, .ref b), (1, .ref (gad G 0)), (2, .ref (gad G 119)), (3, .ref (gad G 129)), (4, .ref (gad G 130)), (5, .int v5)] [] := by
  intro M h
  unfold fL_law_1551 at h
  refine V_wide (Nat.le_refl (c9 + 0)) (Nat.le_refl (s9 + 0)) ?_
  refine V_aload_n 1551 C 1 dL_law_1551 rfl ?_
  refine V_aload_n 1552 C 0 dL_law_1552 rfl ?_
  refine V_iload 1553 C 5 dL_law_1553 rfl ?_
  refine V_iconst 1555 C dL_law_1555 ic1 ?_
  refine V_iadd 1556 C dL_law_1556 ?_
  obtain ⟨c364, h⟩ := chk_some h
  refine V_sld 1557 C S dL_law_1557 c364 ?_
  refine V_aload_n 1558 C 3 dL_law_1558 rfl ?_
  obtain ⟨r365, M366, k367, h⟩ := bindM_some h
  refine V_callH (mc := 1) (ms := 6) (rest := []) 1559 C (kL_setSeed T k367) ch_L_setSeed wk_5_67 rfl rfl dL_law_1559 rfl rfl (show c9 + _ + _ ≤ 603072 by omega) (show s9 + _ + _ ≤ 7182442 by omega) ?_
  refine V_istore 1562 C [(6, .int r365), (0, .ref b), (1, .ref (gad G 0)), (2, .ref (gad G 119)), (3, .ref (gad G 129)), (4, .ref (gad G 130)), (5, .int v5)] dL_law_1562 rfl rfl ?_
  refine V_aload_n 1564 C 3 dL_law_1564 rfl ?_
  refine V_aload_n 1565 C 1 dL_law_1565 rfl ?_
  refine V_iload 1566 C 6 dL_law_1566 rfl ?_
  refine V_iconst 1568 C dL_law_1568 ic1 ?_
  refine V_iadd 1569 C dL_law_1569 ?_
  obtain ⟨c368, h⟩ := chk_some h
  refine V_sld 1570 C S dL_law_1570 c368 ?_
  obtain ⟨r371, M369, k370, h⟩ := bindM_some h
  refine V_callI 1571 (runVO (k := 119) (rest := []) 1571 C (kX12_setSeed  k370) cf_X12_setSeed wk_7_156 (ltl (by rfl) rfl) (ceR_X12 (by rfl)) rfl rfl rfl rfl dL_law_1571 rfl rfl (show c9 + _ ≤ 603072 by omega) (show s9 + _ ≤ 7182442 by omega)) ?_
  refine V_istore 1574 C [(7, .int r371), (6, .int r365), (0, .ref b), (1, .ref (gad G 0)), (2, .ref (gad G 119)), (3, .ref (gad G 129)), (4, .ref (gad G 130)), (5, .int v5)] dL_law_1574 rfl rfl ?_
  refine V_aload_n 1576 C 4 dL_law_1576 rfl ?_
  obtain ⟨r374, M372, k373, h⟩ := bindM_some h
  refine V_callI 1577 (runVO (k := 119) (rest := []) 1577 C (kX12_thrown  k373) cf_X12_thrown wk_6_124 (ltl (by rfl) rfl) (ceR_X12 (by rfl)) rfl rfl rfl rfl dL_law_1577 rfl rfl (show c9 + _ ≤ 603072 by omega) (show s9 + _ ≤ 7182442 by omega)) ?_
  refine V_iload 1580 C 1 dL_law_1580 rfl ?_
  refine V_icmp_eq 1582 1587 C dL_law_1582 (by decide) (fun c375 => ?_) (fun c375 => ?_)
  · replace h := ite_t c375 h
    refine V_iload 1587 C 1 dL_law_1587 rfl ?_
    refine V_if_ne 1589 1604 C dL_law_1589 (by decide) (fun c376 => ?_) (fun c376 => ?_)
    · replace h := ite_f c376 h
      refine V_goto 1604 2596 C dL_law_1604 (by decide) ?_
      refine V_sub [2, 3, 4, 5, 6, 7] rfl ?_
      exact V_wide (by omega) (by omega) (hk _ h)
    · replace h := ite_t c376 h
      refine V_aload_n 1592 C 5 dL_law_1592 rfl ?_
      refine V_iconst 1593 C dL_law_1593 ic0 ?_
      refine V_lald 1594 C dL_law_1594 (by rfl) ?_
      refine V_iload 1595 C 0 dL_law_1595 rfl ?_
      refine V_i2l 1597 C dL_law_1597 ?_
      refine V_lcmp 1598 C dL_law_1598 ?_
      refine V_if_eq 1599 1604 C dL_law_1599 (by decide) (fun c377 => ?_) (fun c377 => ?_)
      · replace h := ite_t c377 h
        refine V_goto 1604 2596 C dL_law_1604 (by decide) ?_
        refine V_sub [2, 3, 4, 5, 6, 7] rfl ?_
        exact V_wide (by omega) (by omega) (hk _ h)
      · replace h := ite_f c377 h
        refine V_iconst 1602 C dL_law_1602 ic0 ?_
        cases h
  · replace h := ite_f c375 h
    refine V_iconst 1585 C dL_law_1585 ic0 ?_
    cases h
set_option maxHeartbeats 4000000 in
theorem vL_law_1607 {G : GG} {κ : KK} {F b Ls : Nat} {xs : Nat → Int32} (C : Cx G κ cL_law "LarderPatrolLaw" ret 9 room_1) (S : CxS G κ b Ls xs) (T : κ.2.1.stackTraces = false) {c9 s9 : Nat} (hc : c9 + 3 ≤ 603072) (hs : s9 + 18 ≤ 7182442) {v5 : Int32} {kx : Mem → Option Bool} (hk : ∀ M : Mem, kx M = some true → V G κ 9 (c9 + 3) (s9 + 18) M 2596 [(0, .ref b), (1, .ref (gad G 0)), (2, .ref (gad G 119)), (3, .ref (gad G 129)), (4, .ref (gad G 130)), (5, .int v5)] []) : ∀ M : Mem, fL_law_1607 F Ls xs kx v5 M = some true → V G κ 9 c9 s9 M 1607 [(0, .ref b), (1, .ref (gad G 0)), (2, .ref (gad G 119)), (3, .ref (gad G 129)), (4, .ref (gad G 130)), (5, .int v5)] [] := by
  intro M h
  unfold fL_law_1607 at h
  refine V_wide (Nat.le_refl (c9 + 0)) (Nat.le_refl (s9 + 0)) ?_
  refine V_aload_n 1607 C 1 dL_law_1607 rfl ?_
  obtain ⟨r380, M378, k379, h⟩ := bindM_some h
  refine V_callI 1608 (runVO (k := 0) (rest := []) 1608 C (kX11_seed  k379) cf_X11_seed wk_2_98 (ltl (by rfl) rfl) (ceR_X11 (by rfl)) rfl rfl rfl rfl dL_law_1608 rfl rfl (show c9 + _ ≤ 603072 by omega) (show s9 + _ ≤ 7182442 by omega)) ?_
  refine V_aload_n 1611 C 2 dL_law_1611 rfl ?_
  obtain ⟨r383, M381, k382, h⟩ := bindM_some h
  refine V_callI 1612 (runVO (k := 119) (rest := [.int r380]) 1612 C (kX12_seed  k382) cf_X12_seed wk_7_228 (ltl (by rfl) rfl) (ceR_X12 (by rfl)) rfl rfl rfl rfl dL_law_1612 rfl rfl (show c9 + _ ≤ 603072 by omega) (show s9 + _ ≤ 7182442 by omega)) ?_
  refine V_icmp_eq 1615 2596 C dL_law_1615 (by decide) (fun c384 => ?_) (fun c384 => ?_)
  · replace h := ite_t c384 h
    exact V_wide (by omega) (by omega) (hk _ h)
  · replace h := ite_f c384 h
    refine V_iconst 1618 C dL_law_1618 ic0 ?_
    cases h
end
