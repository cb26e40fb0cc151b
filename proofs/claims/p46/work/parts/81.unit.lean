/-! one unit of a rule is read -/
def zul_unit : List (Nat × List zx_E) := [(0, [(0, 0, 0, 332, 1), (1, 27, 199, 40, 4), (4, 0, 0, 332, 5), (5, 27, 199, 47, 8), (8, 4, 20, 0, 9), (9, 6, 0, 0, 10), (10, 33, 9, 0, 11), (11, 4, 52, 0, 12), (12, 24, 31, 3, 15), (15, 0, 0, 332, 16), (16, 27, 199, 40, 19), (19, 0, 0, 332, 20), (20, 27, 199, 47, 23), (23, 4, 20, 0, 24), (24, 6, 0, 0, 25), (25, 33, 9, 0, 26), (26, 4, 116, 0, 28), (28, 24, 35, 0, 31)]), (31, [(31, 4, 20, 0, 32), (32, 23, 36, 0, 35)]), (35, [(35, 4, 4, 0, 36)]), (36, [(36, 1, 1, 146, 37), (37, 0, 1, 146, 38), (38, 25, 55, 4, 41), (41, 0, 0, 332, 42), (42, 4, 5, 24, 45), (45, 41, 252, 0, 48), (48, 25, 55, 4, 51), (51, 4, 20, 0, 52), (52, 23, 56, 0, 55)]), (55, [(55, 4, 4, 0, 56)]), (56, [(56, 1, 2, 146, 57), (57, 0, 0, 332, 58), (58, 4, 644, 0, 60), (60, 41, 243, 0, 63), (63, 1, 3, 146, 64), (64, 0, 0, 332, 65), (65, 41, 254, 0, 68), (68, 1, 4, 146, 70), (70, 0, 0, 332, 71), (71, 27, 199, 14, 74), (74, 0, 0, 332, 75), (75, 27, 199, 44, 78), (78, 33, 9, 0, 79), (79, 4, 964, 0, 81), (81, 24, 93, 4, 84), (84, 0, 0, 332, 85), (85, 27, 199, 48, 88), (88, 4, 484, 0, 90), (90, 24, 97, 5, 93)]), (93, [(93, 4, 20, 0, 94), (94, 23, 98, 0, 97)]), (97, [(97, 4, 4, 0, 98)]), (98, [(98, 1, 5, 146, 100), (100, 0, 2, 146, 101), (101, 25, 126, 5, 104), (104, 0, 4, 146, 106), (106, 25, 121, 5, 109), (109, 0, 0, 332, 110), (110, 27, 199, 8, 113), (113, 4, 68, 0, 114), (114, 24, 121, 4, 117), (117, 0, 3, 146, 118), (118, 25, 143, 4, 121)]), (121, [(121, 0, 5, 146, 123), (123, 25, 143, 5, 126)]), (126, [(126, 0, 2, 146, 127), (127, 25, 134, 5, 130), (130, 0, 3, 146, 131), (131, 25, 147, 4, 134)]), (134, [(134, 0, 0, 332, 135), (135, 27, 199, 46, 138), (138, 4, 116, 0, 140), (140, 24, 147, 5, 143)]), (143, [(143, 0, 0, 332, 144), (144, 41, 236, 0, 147)]), (147, [(147, 0, 0, 332, 148), (148, 41, 233, 0, 151), (151, 25, 156, 5, 154), (154, 4, 20, 0, 155), (155, 42, 0, 0, 156)]), (156, [(156, 0, 0, 332, 157), (157, 27, 199, 14, 160), (160, 0, 0, 332, 161), (161, 27, 199, 44, 164), (164, 22, 0, 0, 165), (165, 33, 9, 0, 166), (166, 0, 2, 146, 167), (167, 25, 174, 4, 170), (170, 4, 4, 0, 171), (171, 23, 175, 0, 174)]), (174, [(174, 4, 20, 0, 175)]), (175, [(175, 5, 0, 0, 176), (176, 34, 9, 0, 177), (177, 0, 0, 332, 178), (178, 20, 0, 0, 179), (179, 27, 199, 48, 182), (182, 0, 2, 146, 183), (183, 25, 190, 4, 186), (186, 4, 4, 0, 187), (187, 23, 191, 0, 190)]), (190, [(190, 4, 20, 0, 191)]), (191, [(191, 5, 0, 0, 192), (192, 28, 153092295, 48, 195), (195, 0, 4, 146, 197), (197, 25, 207, 5, 200), (200, 0, 0, 332, 201), (201, 27, 199, 9, 204), (204, 23, 208, 0, 207)]), (207, [(207, 4, 4, 0, 208)]), (208, [(208, 1, 6, 146, 210), (210, 0, 0, 332, 211), (211, 41, 238, 0, 214), (214, 0, 2, 146, 215), (215, 25, 222, 5, 218), (218, 0, 3, 146, 219), (219, 25, 250, 4, 222)]), (222, [(222, 0, 0, 332, 223), (223, 0, 2, 146, 224), (224, 25, 231, 4, 227), (227, 4, 52, 0, 228), (228, 23, 233, 0, 231)]), (231, [(231, 4, 116, 0, 233)]), (233, [(233, 4, 2020, 0, 235)]), (235, [(235, 41, 248, 0, 238), (238, 0, 0, 332, 239), (239, 20, 0, 0, 240), (240, 27, 199, 46, 243), (243, 4, 20, 0, 244), (244, 5, 0, 0, 245), (245, 28, 153092295, 46, 248), (248, 4, 20, 0, 249), (249, 42, 0, 0, 250)]), (250, [(250, 0, 0, 332, 251), (251, 0, 4, 146, 253), (253, 25, 261, 5, 256), (256, 4, 1764, 0, 258), (258, 23, 263, 0, 261)]), (261, [(261, 0, 4, 146, 263)]), (263, [(263, 0, 6, 146, 265)]), (265, [(265, 41, 249, 0, 268), (268, 4, 4, 0, 269), (269, 42, 0, 0, 270)])]
def zc_unit : zx_M := zy_fin zm_253 zul_unit
theorem zul_unit_ok : zy_fic zm_253 zul_unit = true := by decide +kernel
def zu_W : Nat := 99186808081890480784238842172499031190633339723584471619101616809370537623130245341893808467250541744892296308338368644744692855342018356085731193822306132632005837781594569632048296418664122905431183674452916433040972289858231618728475929325120850027279320331370538828256022179827682105807380927398587007729379243422930388126493389047765077922951300819500269116325728978167586420240340465479251450166910061084975657660536751594283152375490744347656715693943934280806656689797330913128971272599957425542935789009842141121027483720863210919760582640079355803974339071408870135513376069307457222658760118040670145217398175302132602148312488399455920585764967814246892276384040211609819484735660002666059420981533051298146587167371986918822018464088995712906647715257683577083430481265643513009437196000199006344036287996888503488920462583727913346890679311198426787883719870147374399252867202417900653992069733293416180669738846695487367493637384255035203872022863370533644700712485357833260724061652749791072150447893580250052159059893083103270901347893281493829009229310166505498544177971885185032748695602554040347149253991395043342632841181867363332466400505860648749807836451771033962637613232395945081404840135452099966097009288149515013660463832033995865030281710668772363610114092647766275735560422249378206927589967737758249948723913151308652219850999647080223547261485496116737884929835525470201759884451717710650204709847961969630666433687983553820674061626443635942394909809998161299496677719339877309231257990749309893800158211218211558804094060528343993022308064511842965583135277357343405969659831880321648596203909275476723019715268133181700253171821992755229770691581050476265879481403334153446275593702720818055902334363274259262525140017256167143654095309611933390236746023655035433906144804864
noncomputable def zu_K : zy_K := zy_Ke zy_T zy_fg 99186808081890480784238842172499031190633339723584471619101616809370537623130245341893808467250541744892296308338368644744692855342018356085731193822306132632005837781594569632048296418664122905431183674452916433040972289858231618728475929325120850027279320331370538828256022179827682105807380927398587007729379243422930388126493389047765077922951300819500269116325728978167586420240340465479251450166910061084975657660536751594283152375490744347656715693943934280806656689797330913128971272599957425542935789009842141121027483720863210919760582640079355803974339071408870135513376069307457222658760118040670145217398175302132602148312488399455920585764967814246892276384040211609819484735660002666059420981533051298146587167371986918822018464088995712906647715257683577083430481265643513009437196000199006344036287996888503488920462583727913346890679311198426787883719870147374399252867202417900653992069733293416180669738846695487367493637384255035203872022863370533644700712485357833260724061652749791072150447893580250052159059893083103270901347893281493829009229310166505498544177971885185032748695602554040347149253991395043342632841181867363332466400505860648749807836451771033962637613232395945081404840135452099966097009288149515013660463832033995865030281710668772363610114092647766275735560422249378206927589967737758249948723913151308652219850999647080223547261485496116737884929835525470201759884451717710650204709847961969630666433687983553820674061626443635942394909809998161299496677719339877309231257990749309893800158211218211558804094060528343993022308064511842965583135277357343405969659831880321648596203909275476723019715268133181700253171821992755229770691581050476265879481403334153446275593702720818055902334363274259262525140017256167143654095309611933390236746023655035433906144804864 0 [] [([20], [(1344541, 0, 0, 147573952692755628119), (1345309, 0, 0, 147573952624036176903)])]
def zub_u : List (Nat × Nat) := [(2147483649, 2147483686), (2147483648, 2147483655), (2147483648, 2147483678), (2147483648, 2147484768), (2147483648, 2147485248)]
def zus_u : List zy_C2 := [(235, [2020, 52, 168402], [(0, 168402)], [(1355549, 17), (1355293, 33), (1355805, 49), (1355037, 65), (1344541, 4), (1345309, 147573952624036176903)], ([(2147483649, 2147483686), (2147483648, 2147483654), (2147483648, 2147483678), (2147483648, 2147484768), (2147483648, 2147485248)] : List (Nat × Nat)).foldl zy_pe zy_e1), (235, [2020, 52, 168402], [(0, 168402)], [(1355549, 17), (1355293, 33), (1355805, 484), (1355037, 65), (1344541, 4), (1345309, 147573952624036176903)], ([(2147483649, 2147483686), (2147483648, 2147483654), (2147483678, 2147483678), (2147483648, 2147484768), (2147483648, 2147485248)] : List (Nat × Nat)).foldl zy_pe zy_e1), (235, [2020, 116, 168402], [(0, 168402)], [(1355549, 17), (1355293, 33), (1355805, 4145), (1355037, 65), (1344541, 4), (1345309, 147573952624036176903)], ([(2147483649, 2147483686), (2147483648, 2147483654), (2147483648, 2147483677), (2147483648, 2147484768), (2147483648, 2147485248)] : List (Nat × Nat)).foldl zy_pe zy_e1), (265, [68719476727, 1764, 168402], [(0, 168402)], [(1355549, 17), (1355293, 33), (1355805, 4145), (1355037, 65), (1344541, 4), (1345309, 147573952624036176903)], ([(2147483649, 2147483686), (2147483648, 2147483655), (2147483648, 2147483677), (2147483648, 2147484768), (2147483648, 2147485248)] : List (Nat × Nat)).foldl zy_pe zy_e1), (265, [68719476727, 1572, 168402], [(0, 168402)], [(1355549, 17), (1355293, 33), (1355805, 4145), (1355037, 65), (1344541, 4), (1345309, 147573952624036176903)], ([(2147483649, 2147483686), (2147483648, 2147483655), (2147483648, 2147483677), (2147483648, 2147484768), (2147483648, 2147485248)] : List (Nat × Nat)).foldl zy_pe zy_e1), (265, [68719476727, 1860, 168402], [(0, 168402)], [(1355549, 17), (1355293, 33), (1355805, 4145), (1355037, 65), (1344541, 4), (1345309, 147573952624036176903)], ([(2147483649, 2147483686), (2147483648, 2147483655), (2147483648, 2147483677), (2147483648, 2147484768), (2147483648, 2147485248)] : List (Nat × Nat)).foldl zy_pe zy_e1), (265, [68719476727, 1604, 168402], [(0, 168402)], [(1355549, 17), (1355293, 33), (1355805, 4145), (1355037, 65), (1344541, 4), (1345309, 147573952624036176903)], ([(2147483649, 2147483686), (2147483648, 2147483655), (2147483648, 2147483677), (2147483648, 2147484768), (2147483648, 2147485248)] : List (Nat × Nat)).foldl zy_pe zy_e1), (265, [68719476727, 1796, 168402], [(0, 168402)], [(1355549, 17), (1355293, 33), (1355805, 4145), (1355037, 65), (1344541, 4), (1345309, 147573952624036176903)], ([(2147483649, 2147483686), (2147483648, 2147483655), (2147483648, 2147483677), (2147483648, 2147484768), (2147483648, 2147485248)] : List (Nat × Nat)).foldl zy_pe zy_e1)]
def zut_u : zy_Tb := [(238, [], [zq_66])]
theorem zuk_u0 : zx_bk zc_unit.2.2 0 (fun cur => zy_R zy_T zy_fg 99186808081890480784238842172499031190633339723584471619101616809370537623130245341893808467250541744892296308338368644744692855342018356085731193822306132632005837781594569632048296418664122905431183674452916433040972289858231618728475929325120850027279320331370538828256022179827682105807380927398587007729379243422930388126493389047765077922951300819500269116325728978167586420240340465479251450166910061084975657660536751594283152375490744347656715693943934280806656689797330913128971272599957425542935789009842141121027483720863210919760582640079355803974339071408870135513376069307457222658760118040670145217398175302132602148312488399455920585764967814246892276384040211609819484735660002666059420981533051298146587167371986918822018464088995712906647715257683577083430481265643513009437196000199006344036287996888503488920462583727913346890679311198426787883719870147374399252867202417900653992069733293416180669738846695487367493637384255035203872022863370533644700712485357833260724061652749791072150447893580250052159059893083103270901347893281493829009229310166505498544177971885185032748695602554040347149253991395043342632841181867363332466400505860648749807836451771033962637613232395945081404840135452099966097009288149515013660463832033995865030281710668772363610114092647766275735560422249378206927589967737758249948723913151308652219850999647080223547261485496116737884929835525470201759884451717710650204709847961969630666433687983553820674061626443635942394909809998161299496677719339877309231257990749309893800158211218211558804094060528343993022308064511842965583135277357343405969659831880321648596203909275476723019715268133181700253171821992755229770691581050476265879481403334153446275593702720818055902334363274259262525140017256167143654095309611933390236746023655035433906144804864 0 zut_u zy_mk 2000 4 zc_unit zu_K (zy_cf2 zy_T zy_fg (1 + zub_u.length) 0 100 (zx_eg (zub_u.foldl zy_pe zy_e1) 0) 59285549744719862831192854623926255719090435768416840565565375453351716166041600 zus_u) cur 0 (zy_rl [(0, 168402)]) [] [(1355549, 17), (1355293, 33), (1355805, 49), (1355037, 65), (1345309, 81), (1344541, 4), (1354781, 4)] (zub_u.foldl zy_pe zy_e1)) = true := by decide +kernel
theorem zuk_u1 : zx_bk zc_unit.2.2 0 (fun cur => zy_R zy_T zy_fg 99186808081890480784238842172499031190633339723584471619101616809370537623130245341893808467250541744892296308338368644744692855342018356085731193822306132632005837781594569632048296418664122905431183674452916433040972289858231618728475929325120850027279320331370538828256022179827682105807380927398587007729379243422930388126493389047765077922951300819500269116325728978167586420240340465479251450166910061084975657660536751594283152375490744347656715693943934280806656689797330913128971272599957425542935789009842141121027483720863210919760582640079355803974339071408870135513376069307457222658760118040670145217398175302132602148312488399455920585764967814246892276384040211609819484735660002666059420981533051298146587167371986918822018464088995712906647715257683577083430481265643513009437196000199006344036287996888503488920462583727913346890679311198426787883719870147374399252867202417900653992069733293416180669738846695487367493637384255035203872022863370533644700712485357833260724061652749791072150447893580250052159059893083103270901347893281493829009229310166505498544177971885185032748695602554040347149253991395043342632841181867363332466400505860648749807836451771033962637613232395945081404840135452099966097009288149515013660463832033995865030281710668772363610114092647766275735560422249378206927589967737758249948723913151308652219850999647080223547261485496116737884929835525470201759884451717710650204709847961969630666433687983553820674061626443635942394909809998161299496677719339877309231257990749309893800158211218211558804094060528343993022308064511842965583135277357343405969659831880321648596203909275476723019715268133181700253171821992755229770691581050476265879481403334153446275593702720818055902334363274259262525140017256167143654095309611933390236746023655035433906144804864 0 zut_u zy_mk 2000 4 zc_unit zu_K (zy_cf2 zy_T zy_fg (1 + zub_u.length) 0 100 (zx_eg (zub_u.foldl zy_pe zy_e1) 0) 59285549744719862831192854623926255719090435768416840565565375453351716166041600 zus_u) cur 0 (zy_rl [(0, 168402)]) [] [(1355549, 17), (1355293, 33), (1355805, 49), (1355037, 65), (1345309, 81), (1344541, 4), (1354781, 20)] (zub_u.foldl zy_pe zy_e1)) = true := by decide +kernel
section ZUN
variable {l : Launch} {D : va_G} {N0 : Nat} {Z : zy_V}
theorem zr_W_f (H : zy_H0 Z) {b : Nat} {ws0 ws : va_W} (hW : zr_W Z b ws0 ws) {f : Nat} (hlt : f < 128) (hf : f ∉ zr_fs) : zy_rd ws (zy_ru Z 29) f 0 = zy_rd ws0 (zy_ru Z 29) f 0 := by
  have ne : ∀ r g, 0 < r → r < 100 → zy_fg[r]? = some g → g ≠ 41 → zy_ru Z 29 ≠ zy_ru Z r := fun r g h0 h1 h2 h3 => zv_ne H (r := 29) (g := 41) (by decide) (by decide) rfl h0 h1 h2 (Ne.symm h3)
  refine zr_M_fr H hW.1 hlt (fun z => ?_)
  rcases z with z | z | z | z | z | z | z | z | z
  · exact hf z.2
  · exact ne 35 47 (by decide) (by decide) rfl (by decide) z.1
  · exact ne 59 71 (by decide) (by decide) rfl (by decide) z.1
  · exact ne 60 72 (by decide) (by decide) rfl (by decide) z.1
  · exact ne 61 73 (by decide) (by decide) rfl (by decide) z.1
  · exact ne 62 74 (by decide) (by decide) rfl (by decide) z.1
  · exact ne 56 68 (by decide) (by decide) rfl (by decide) z.1
  · exact ne 47 59 (by decide) (by decide) rfl (by decide) z.1
  · exact ne 48 60 (by decide) (by decide) rfl (by decide) z.1
theorem zu_fr (H : zy_H0 Z) (HU : zy_UQ zy_fg Z) {b : Nat} {ws0 ws ws' : va_W} (hU : zy_UN (zy_gl Z) zu_W ws ws') : (∀ r g a, 0 < r → r < 100 → zy_fg[r]? = some g → g ≠ 41 → g ≠ 47 → zy_rd ws' (zy_ru Z r) 0 a = zy_rd ws (zy_ru Z r) 0 a) ∧ (zr_W Z b ws0 ws → zr_W Z b ws0 ws') := by
  have hb : ((List.range 12800).all (fun n => !(Nat.testBit zu_W n) || [5252, 5253, 5254, 5255, 5256, 5257, 5258, 5296, 6016].contains n) && Nat.beq (Nat.shiftRight zu_W 12800) 0) = true := by decide +kernel
  have hf : zv_Fm Z ws ws' (fun j f _ => (j = zy_ru Z 29 ∧ f ∈ zr_fs) ∨ (j = zy_ru Z 35 ∧ f = 0)) := by
    refine ⟨hU.1, fun j g f a hg hf hE => hU.2.1 j g f a hg hf ?_⟩
    cases hc : zu_W.testBit (128 * g + f)
    · rfl
    · exfalso
      have := zv_bits hb hc
      simp at this
      rcases (show g = 41 ∨ (g = 47 ∧ f = 0) by omega) with hg1 | ⟨hg1, hg2⟩
      · subst hg1
        refine hE (Or.inl ⟨HU 29 41 j (by decide) (by decide) rfl hg, ?_⟩)
        unfold zr_fs
        simp
        omega
      · subst hg1
        exact hE (Or.inr ⟨HU 35 47 j (by decide) (by decide) rfl hg, hg2⟩)
  refine ⟨fun r g a q1 q2 q3 q4 q5 => zv_Fm_r H hf q1 q2 q3 (by decide) (fun z => ?_), fun hW => zr_W_tr H hW hf (fun j f a z => ?_)⟩
  · rcases z with z | z
    · exact zv_ne H q1 q2 q3 (r' := 29) (g' := 41) (by decide) (by decide) rfl q4 z.1
    · exact zv_ne H q1 q2 q3 (r' := 35) (g' := 47) (by decide) (by decide) rfl q5 z.1
  · rcases z with z | z
    · exact Or.inl z
    · exact Or.inr (Or.inl z)
set_option maxHeartbeats 2000000 in
set_option maxRecDepth 20000 in
theorem zo_unit0 (H : zy_H0 Z) (HU : zy_UQ zy_fg Z) {ws0 : va_W} {S : List Nat} {w U n : Nat} (h0 : zy_rd ws0 (zy_ru Z 29) 44 0 = some (.int (nI 0))) : zy_OkP l D N0 zy_T Z 253 5 (fun av ws => av = [.ref (zy_fa1 Z 29)] ∧ zr_J Z 0 ws0 ws true S w U n) (fun _ _ vs ws' => zr_Po Z 0 ws0 (zr_m true S w U) vs ws') := by
  refine zy_handP (y := zm_253) H HU rfl (fun av ws h => by rw [h.1]; exact Nat.le_of_ble_eq_true rfl) ?_
  intro d hd av tys ws ⟨e, hJ⟩ p en R s m below meth c hB0 ls hl hx
  subst e
  obtain ⟨d, rfl⟩ : ∃ d', d = d' + 1 := ⟨d - 1, by omega⟩
  have l0 : ls[0]? = some (.val (.ref (zy_fa1 Z 29))) := hl (0, _) (List.mem_of_getElem? (i := 0) rfl)
  have hB := zy_Fr_fin zul_unit_ok hB0
  obtain ⟨hx0, hb0, -⟩ := hB.2.2.1 Z (zy_le_rf Z)
  have hB1 : zy_Fr p l R s m [.ref (zy_fa1 Z 29)].toArray meth c N0 Z zc_unit (4 + (d - 3)) := by rw [show 4 + (d - 3) = d + 1 by omega]; exact hB
  have hJ' := hJ
  obtain ⟨hW, ⟨f4, ⟨ek, he, f7⟩, f47, f46, f48, f45⟩, hSt, hPu, hPo⟩ := hJ'
  obtain ⟨hl1, hl2⟩ := zr_Pu_len hPu
  have hw7 := hPu.2.1
  have hU30 := hPu.2.2.1
  have f44 : zy_rd ws (zy_ru Z 29) 44 0 = some (.int (nI 0)) := (zr_W_f H hW (by decide) (by decide)).trans h0
  refine zy_seg (k := d - 3) hB1 (zy_g3 (zy_g1 (zo_66 H) zy_g0) zy_g2) [nI (S.length + 1), nI w, nI U, nI (560 * 0 + n), nI ek] zub_u [(0, 168402)] [] [(1355549, 17), (1355293, 33), (1355805, 49), (1355037, 65), (1345309, 81), (1344541, 4), (1354781, 4)] rfl (by decide) (zv_hb (by omega) (by omega) (by decide) (zv_hb (by omega) (by omega) (by decide) (zv_hb (by omega) (by omega) (by decide) (zv_hb (by omega) (by omega) (by decide) (zv_hb (by omega) (by omega) (by decide) zy_hb0))))) (zv_rtK hB (fun vs ws' po hpo hsr hcr hU => ?_)) zy_Gs0 hx (by decide +kernel) (zy_fa ⟨_, l0, rfl⟩ zy_fa0) rfl (zy_fa ⟨_, f47, rfl⟩ (zy_fa ⟨_, f46, rfl⟩ (zy_fa ⟨_, f48, rfl⟩ (zy_fa ⟨_, f45, rfl⟩ (zy_fa ⟨_, f7, rfl⟩ (zy_fa ⟨_, f4, rfl⟩ (zy_fa ⟨_, f44, rfl⟩ zy_fa0))))))) zuk_u0 (zy_fa ?_ (zy_fa ?_ (zy_fa ?_ (zy_fa ?_ (zy_fa ?_ (zy_fa ?_ (zy_fa ?_ (zy_fa ?_ zy_fa0))))))))
  · rcases List.mem_singleton.mp hpo with rfl
    obtain ⟨u2, uW⟩ := zu_fr (b := 0) (ws0 := ws0) H HU hU
    obtain ⟨fk, k1, k2, -⟩ := zv_dc_7 (ys := []) H (hcr _ List.mem_cons_self) (i := 0) (key := 1344541) (lo := 2147483649) (hi := 2147483653) rfl (by decide) (by decide) (by decide)
    obtain ⟨ye, q7, e1, e2⟩ := zv_dc_7 (ys := []) H (hcr _ (List.mem_cons_of_mem _ List.mem_cons_self)) (i := 0) (key := 1345309) (lo := 2147483648) (hi := 2147485248) rfl (by decide) (by decide) (by decide)
    obtain ⟨ke, hke, rfl⟩ := zv_nn (n := 1600) e1 e2
    refine ⟨1, by decide, zv_dm_of (ys := []) H (by decide) hsr rfl, Or.inl ⟨uW hW, ⟨fk, k1, fun z => ?_⟩, ⟨ke, hke, q7⟩⟩⟩
    rw [z, show zx_bz 0 = 2147483648 from by decide] at k2
    omega
  · skip
    intro ls1 vs1 H1 locs1 tys1 ws1 hx1 hrow hst hcr hev hU1
    have l0 := zv_dl_of (ys := [nI (S.length + 1), nI w, nI U, nI (560 * 0 + n), nI ek]) H (Nat.le_of_ble_eq_true rfl) hrow (i := 0) rfl rfl
    have q47 : zy_rd ws1 (zy_ru Z 29) 47 0 = some (.int (nI (S.length + 1))) := zv_dc_of (ys := [nI (S.length + 1), nI w, nI U, nI (560 * 0 + n), nI ek]) H (Nat.le_of_ble_eq_true rfl) hcr (i := 0) rfl (by decide) rfl
    have q46 : zy_rd ws1 (zy_ru Z 29) 46 0 = some (.int (nI w)) := zv_dc_of (ys := [nI (S.length + 1), nI w, nI U, nI (560 * 0 + n), nI ek]) H (Nat.le_of_ble_eq_true rfl) hcr (i := 1) rfl (by decide) rfl
    have q48 : zy_rd ws1 (zy_ru Z 29) 48 0 = some (.int (nI U)) := zv_dc_of (ys := [nI (S.length + 1), nI w, nI U, nI (560 * 0 + n), nI ek]) H (Nat.le_of_ble_eq_true rfl) hcr (i := 2) rfl (by decide) rfl
    have q45 : zy_rd ws1 (zy_ru Z 29) 45 0 = some (.int (nI (560 * 0 + n))) := zv_dc_of (ys := [nI (S.length + 1), nI w, nI U, nI (560 * 0 + n), nI ek]) H (Nat.le_of_ble_eq_true rfl) hcr (i := 3) rfl (by decide) rfl
    have q4 : zy_rd ws1 (zy_ru Z 29) 4 0 = some (.int (nI 0)) := zv_dc_of (ys := [nI (S.length + 1), nI w, nI U, nI (560 * 0 + n), nI ek]) H (Nat.le_of_ble_eq_true rfl) hcr (i := 4) rfl (by decide) rfl
    obtain ⟨ye, q7, e1, e2⟩ := zv_dc_7 (ys := [nI (S.length + 1), nI w, nI U, nI (560 * 0 + n), nI ek]) H hcr (i := 5) (key := 1345309) (lo := 2147483648) (hi := 2147485248) rfl (by decide) (by decide) (by decide)
    obtain ⟨ke, hke, rfl⟩ := zv_nn (n := 1600) e1 e2
    have hw6 := (zv_bd (ys := [nI (S.length + 1), nI w, nI U, nI (560 * 0 + n), nI ek]) H hev (i := 1) (lo := 2147483648) (hi := 2147483654) rfl (by decide +kernel) (by decide) (by decide)).2
    rw [zy_bz_n (by omega)] at hw6
    obtain ⟨u2, uW⟩ := zu_fr (b := 0) (ws0 := ws0) H HU hU1
    have e : vs1 = [.int (nI 126), .int (nI 3), .ref (zy_fa1 Z 29)] := zv_dm_of (ys := [nI (S.length + 1), nI w, nI U, nI (560 * 0 + n), nI ek]) H (Nat.le_of_ble_eq_true rfl) hst rfl
    subst e
    refine zv_ivM (As := [.int (nI 3), .int (nI 126)]) (rest := []) (q := (12, 366, 248, 0, 7, 211)) (y := zm_248) (zo_push H HU (k := S.length + 1) (x := nI 3) (y := nI 126) (by omega)) hB hx1 (List.mem_of_getElem? (i := 290) rfl) rfl rfl rfl (by decide) rfl (by decide) rfl rfl (Nat.zero_le _) ⟨rfl, q47⟩ rfl (by decide) ?_
    intro vs2 tys2 ws2 H2 locs2 hn2 hq2 hx2
    obtain ⟨rfl, hpu⟩ := hq2
    obtain ⟨p1, p59, p61, p62, pW⟩ := zr_push_fr (b := 0) (ws0 := ws0) H hpu
    have q46b : zy_rd ws2 (zy_ru Z 29) 46 0 = some (.int (nI w)) := (p1 46 (by decide) (by decide)).trans q46
    refine lv_aload_n hx0 hb0 rfl rfl l0 ?_
    refine lv_dup hx0 hb0 rfl rfl ?_
    refine zv_get hB hx2 (q := (12, 363, 12, 46, 6, 147)) (List.mem_of_getElem? (i := 163) rfl) rfl rfl rfl rfl rfl q46b ?_
    refine lv_iconst (v := nI 1) hx0 hb0 rfl (by decide) ?_
    refine lv_iadd hx0 hb0 rfl ?_
    rw [nI_add]
    refine zv_put hB hx2 (q := (12, 363, 12, 46, 6, 147)) (f := 46) (lo := 2147483648) (hi2 := 2147483655) (y := nI (w + 1)) (List.mem_of_getElem? (i := 163) rfl) rfl rfl rfl rfl rfl (by decide +kernel) (by decide +kernel) ⟨fun _ => ⟨_, rfl⟩, fun h => absurd h (by decide +kernel), fun h => absurd h (by decide +kernel)⟩ (by decide +kernel) (by rw [zy_bz_n (by omega)]; omega) (by rw [zy_bz_n (by omega)]; omega) (by decide) (fun H3 locs3 ws3 hx3 hm3 hp3 hf3 => ?_)
    refine lv_iconst (v := nI 1) hx0 hb0 rfl (by decide) ?_
    obtain ⟨t1, t2, tW⟩ := zr_put_fr (b := 0) (ws0 := ws0) H (f0 := 46) (by decide) hm3 hf3
    refine zv_ret hB hx3 rfl rfl rfl ⟨1, by decide, rfl, Or.inr (Or.inr ⟨3 :: S, w + 1, U, n, zr_J_push hJ (x := 3) (by omega) (Or.inl ⟨rfl, rfl⟩) (tW (pW (uW hW))) ⟨(t1 4 (by decide)).trans ((p1 4 (by decide) (by decide)).trans q4), ⟨ke, hke, (t1 7 (by decide)).trans ((p1 7 (by decide) (by decide)).trans q7)⟩, (t1 47 (by decide)).trans hpu.2.1, hp3, (t1 48 (by decide)).trans ((p1 48 (by decide) (by decide)).trans q48), (t1 45 (by decide)).trans ((p1 45 (by decide) (by decide)).trans q45)⟩ (fun a ha => (t2 61 73 a (by decide) (by decide) rfl (by decide)).trans ((p61 a ha).trans (u2 61 73 a (by decide) (by decide) rfl (by decide) (by decide)))) (fun a ha => (t2 62 74 a (by decide) (by decide) rfl (by decide)).trans ((p62 a ha).trans (u2 62 74 a (by decide) (by decide) rfl (by decide) (by decide)))) ((t2 61 73 _ (by decide) (by decide) rfl (by decide)).trans hpu.2.2.1) ((t2 62 74 _ (by decide) (by decide) rfl (by decide)).trans hpu.2.2.2) (fun a => (t2 59 71 a (by decide) (by decide) rfl (by decide)).trans ((p59 a).trans (u2 59 71 a (by decide) (by decide) rfl (by decide) (by decide))))⟩)⟩
  · skip
    intro ls1 vs1 H1 locs1 tys1 ws1 hx1 hrow hst hcr hev hU1
    have l0 := zv_dl_of (ys := [nI (S.length + 1), nI w, nI U, nI (560 * 0 + n), nI ek]) H (Nat.le_of_ble_eq_true rfl) hrow (i := 0) rfl rfl
    have q47 : zy_rd ws1 (zy_ru Z 29) 47 0 = some (.int (nI (S.length + 1))) := zv_dc_of (ys := [nI (S.length + 1), nI w, nI U, nI (560 * 0 + n), nI ek]) H (Nat.le_of_ble_eq_true rfl) hcr (i := 0) rfl (by decide) rfl
    have q46 : zy_rd ws1 (zy_ru Z 29) 46 0 = some (.int (nI w)) := zv_dc_of (ys := [nI (S.length + 1), nI w, nI U, nI (560 * 0 + n), nI ek]) H (Nat.le_of_ble_eq_true rfl) hcr (i := 1) rfl (by decide) rfl
    have hu30 := zv_bd (ys := [nI (S.length + 1), nI w, nI U, nI (560 * 0 + n), nI ek]) H hev (i := 2) (lo := 2147483678) (hi := 2147483678) rfl (by decide +kernel) (by decide) (by decide)
    rw [zy_bz_n (by omega)] at hu30
    have q48 : zy_rd ws1 (zy_ru Z 29) 48 0 = some (.int (nI U)) := by rw [show U = 30 by omega]; exact zv_dc_of (ys := [nI (S.length + 1), nI w, nI U, nI (560 * 0 + n), nI ek]) H (Nat.le_of_ble_eq_true rfl) hcr (i := 2) rfl (by decide) rfl
    have q45 : zy_rd ws1 (zy_ru Z 29) 45 0 = some (.int (nI (560 * 0 + n))) := zv_dc_of (ys := [nI (S.length + 1), nI w, nI U, nI (560 * 0 + n), nI ek]) H (Nat.le_of_ble_eq_true rfl) hcr (i := 3) rfl (by decide) rfl
    have q4 : zy_rd ws1 (zy_ru Z 29) 4 0 = some (.int (nI 0)) := zv_dc_of (ys := [nI (S.length + 1), nI w, nI U, nI (560 * 0 + n), nI ek]) H (Nat.le_of_ble_eq_true rfl) hcr (i := 4) rfl (by decide) rfl
    obtain ⟨ye, q7, e1, e2⟩ := zv_dc_7 (ys := [nI (S.length + 1), nI w, nI U, nI (560 * 0 + n), nI ek]) H hcr (i := 5) (key := 1345309) (lo := 2147483648) (hi := 2147485248) rfl (by decide) (by decide) (by decide)
    obtain ⟨ke, hke, rfl⟩ := zv_nn (n := 1600) e1 e2
    have hw6 := (zv_bd (ys := [nI (S.length + 1), nI w, nI U, nI (560 * 0 + n), nI ek]) H hev (i := 1) (lo := 2147483648) (hi := 2147483654) rfl (by decide +kernel) (by decide) (by decide)).2
    rw [zy_bz_n (by omega)] at hw6
    obtain ⟨u2, uW⟩ := zu_fr (b := 0) (ws0 := ws0) H HU hU1
    have e : vs1 = [.int (nI 126), .int (nI 3), .ref (zy_fa1 Z 29)] := zv_dm_of (ys := [nI (S.length + 1), nI w, nI U, nI (560 * 0 + n), nI ek]) H (Nat.le_of_ble_eq_true rfl) hst rfl
    subst e
    refine zv_ivM (As := [.int (nI 3), .int (nI 126)]) (rest := []) (q := (12, 366, 248, 0, 7, 211)) (y := zm_248) (zo_push H HU (k := S.length + 1) (x := nI 3) (y := nI 126) (by omega)) hB hx1 (List.mem_of_getElem? (i := 290) rfl) rfl rfl rfl (by decide) rfl (by decide) rfl rfl (Nat.zero_le _) ⟨rfl, q47⟩ rfl (by decide) ?_
    intro vs2 tys2 ws2 H2 locs2 hn2 hq2 hx2
    obtain ⟨rfl, hpu⟩ := hq2
    obtain ⟨p1, p59, p61, p62, pW⟩ := zr_push_fr (b := 0) (ws0 := ws0) H hpu
    have q46b : zy_rd ws2 (zy_ru Z 29) 46 0 = some (.int (nI w)) := (p1 46 (by decide) (by decide)).trans q46
    refine lv_aload_n hx0 hb0 rfl rfl l0 ?_
    refine lv_dup hx0 hb0 rfl rfl ?_
    refine zv_get hB hx2 (q := (12, 363, 12, 46, 6, 147)) (List.mem_of_getElem? (i := 163) rfl) rfl rfl rfl rfl rfl q46b ?_
    refine lv_iconst (v := nI 1) hx0 hb0 rfl (by decide) ?_
    refine lv_iadd hx0 hb0 rfl ?_
    rw [nI_add]
    refine zv_put hB hx2 (q := (12, 363, 12, 46, 6, 147)) (f := 46) (lo := 2147483648) (hi2 := 2147483655) (y := nI (w + 1)) (List.mem_of_getElem? (i := 163) rfl) rfl rfl rfl rfl rfl (by decide +kernel) (by decide +kernel) ⟨fun _ => ⟨_, rfl⟩, fun h => absurd h (by decide +kernel), fun h => absurd h (by decide +kernel)⟩ (by decide +kernel) (by rw [zy_bz_n (by omega)]; omega) (by rw [zy_bz_n (by omega)]; omega) (by decide) (fun H3 locs3 ws3 hx3 hm3 hp3 hf3 => ?_)
    refine lv_iconst (v := nI 1) hx0 hb0 rfl (by decide) ?_
    obtain ⟨t1, t2, tW⟩ := zr_put_fr (b := 0) (ws0 := ws0) H (f0 := 46) (by decide) hm3 hf3
    refine zv_ret hB hx3 rfl rfl rfl ⟨1, by decide, rfl, Or.inr (Or.inr ⟨3 :: S, w + 1, U, n, zr_J_push hJ (x := 3) (by omega) (Or.inl ⟨rfl, rfl⟩) (tW (pW (uW hW))) ⟨(t1 4 (by decide)).trans ((p1 4 (by decide) (by decide)).trans q4), ⟨ke, hke, (t1 7 (by decide)).trans ((p1 7 (by decide) (by decide)).trans q7)⟩, (t1 47 (by decide)).trans hpu.2.1, hp3, (t1 48 (by decide)).trans ((p1 48 (by decide) (by decide)).trans q48), (t1 45 (by decide)).trans ((p1 45 (by decide) (by decide)).trans q45)⟩ (fun a ha => (t2 61 73 a (by decide) (by decide) rfl (by decide)).trans ((p61 a ha).trans (u2 61 73 a (by decide) (by decide) rfl (by decide) (by decide)))) (fun a ha => (t2 62 74 a (by decide) (by decide) rfl (by decide)).trans ((p62 a ha).trans (u2 62 74 a (by decide) (by decide) rfl (by decide) (by decide)))) ((t2 61 73 _ (by decide) (by decide) rfl (by decide)).trans hpu.2.2.1) ((t2 62 74 _ (by decide) (by decide) rfl (by decide)).trans hpu.2.2.2) (fun a => (t2 59 71 a (by decide) (by decide) rfl (by decide)).trans ((p59 a).trans (u2 59 71 a (by decide) (by decide) rfl (by decide) (by decide))))⟩)⟩
  · skip
    intro ls1 vs1 H1 locs1 tys1 ws1 hx1 hrow hst hcr hev hU1
    have l0 := zv_dl_of (ys := [nI (S.length + 1), nI w, nI U, nI (560 * 0 + n), nI ek]) H (Nat.le_of_ble_eq_true rfl) hrow (i := 0) rfl rfl
    have q47 : zy_rd ws1 (zy_ru Z 29) 47 0 = some (.int (nI (S.length + 1))) := zv_dc_of (ys := [nI (S.length + 1), nI w, nI U, nI (560 * 0 + n), nI ek]) H (Nat.le_of_ble_eq_true rfl) hcr (i := 0) rfl (by decide) rfl
    have q46 : zy_rd ws1 (zy_ru Z 29) 46 0 = some (.int (nI w)) := zv_dc_of (ys := [nI (S.length + 1), nI w, nI U, nI (560 * 0 + n), nI ek]) H (Nat.le_of_ble_eq_true rfl) hcr (i := 1) rfl (by decide) rfl
    have q48 : zy_rd ws1 (zy_ru Z 29) 48 0 = some (.int (nI (U + 1))) := by rw [← nI_add]; exact zv_dc_of (ys := [nI (S.length + 1), nI w, nI U, nI (560 * 0 + n), nI ek]) H (Nat.le_of_ble_eq_true rfl) hcr (i := 2) rfl (by decide) rfl
    have q45 : zy_rd ws1 (zy_ru Z 29) 45 0 = some (.int (nI (560 * 0 + n))) := zv_dc_of (ys := [nI (S.length + 1), nI w, nI U, nI (560 * 0 + n), nI ek]) H (Nat.le_of_ble_eq_true rfl) hcr (i := 3) rfl (by decide) rfl
    have q4 : zy_rd ws1 (zy_ru Z 29) 4 0 = some (.int (nI 0)) := zv_dc_of (ys := [nI (S.length + 1), nI w, nI U, nI (560 * 0 + n), nI ek]) H (Nat.le_of_ble_eq_true rfl) hcr (i := 4) rfl (by decide) rfl
    obtain ⟨ye, q7, e1, e2⟩ := zv_dc_7 (ys := [nI (S.length + 1), nI w, nI U, nI (560 * 0 + n), nI ek]) H hcr (i := 5) (key := 1345309) (lo := 2147483648) (hi := 2147485248) rfl (by decide) (by decide) (by decide)
    obtain ⟨ke, hke, rfl⟩ := zv_nn (n := 1600) e1 e2
    have hw6 := (zv_bd (ys := [nI (S.length + 1), nI w, nI U, nI (560 * 0 + n), nI ek]) H hev (i := 1) (lo := 2147483648) (hi := 2147483654) rfl (by decide +kernel) (by decide) (by decide)).2
    rw [zy_bz_n (by omega)] at hw6
    have hu29 := (zv_bd (ys := [nI (S.length + 1), nI w, nI U, nI (560 * 0 + n), nI ek]) H hev (i := 2) (lo := 2147483648) (hi := 2147483677) rfl (by decide +kernel) (by decide) (by decide)).2
    rw [zy_bz_n (by omega)] at hu29
    obtain ⟨u2, uW⟩ := zu_fr (b := 0) (ws0 := ws0) H HU hU1
    have e : vs1 = [.int (nI 126), .int (nI 7), .ref (zy_fa1 Z 29)] := zv_dm_of (ys := [nI (S.length + 1), nI w, nI U, nI (560 * 0 + n), nI ek]) H (Nat.le_of_ble_eq_true rfl) hst rfl
    subst e
    refine zv_ivM (As := [.int (nI 7), .int (nI 126)]) (rest := []) (q := (12, 366, 248, 0, 7, 211)) (y := zm_248) (zo_push H HU (k := S.length + 1) (x := nI 7) (y := nI 126) (by omega)) hB hx1 (List.mem_of_getElem? (i := 290) rfl) rfl rfl rfl (by decide) rfl (by decide) rfl rfl (Nat.zero_le _) ⟨rfl, q47⟩ rfl (by decide) ?_
    intro vs2 tys2 ws2 H2 locs2 hn2 hq2 hx2
    obtain ⟨rfl, hpu⟩ := hq2
    obtain ⟨p1, p59, p61, p62, pW⟩ := zr_push_fr (b := 0) (ws0 := ws0) H hpu
    have q46b : zy_rd ws2 (zy_ru Z 29) 46 0 = some (.int (nI w)) := (p1 46 (by decide) (by decide)).trans q46
    refine lv_aload_n hx0 hb0 rfl rfl l0 ?_
    refine lv_dup hx0 hb0 rfl rfl ?_
    refine zv_get hB hx2 (q := (12, 363, 12, 46, 6, 147)) (List.mem_of_getElem? (i := 163) rfl) rfl rfl rfl rfl rfl q46b ?_
    refine lv_iconst (v := nI 1) hx0 hb0 rfl (by decide) ?_
    refine lv_iadd hx0 hb0 rfl ?_
    rw [nI_add]
    refine zv_put hB hx2 (q := (12, 363, 12, 46, 6, 147)) (f := 46) (lo := 2147483648) (hi2 := 2147483655) (y := nI (w + 1)) (List.mem_of_getElem? (i := 163) rfl) rfl rfl rfl rfl rfl (by decide +kernel) (by decide +kernel) ⟨fun _ => ⟨_, rfl⟩, fun h => absurd h (by decide +kernel), fun h => absurd h (by decide +kernel)⟩ (by decide +kernel) (by rw [zy_bz_n (by omega)]; omega) (by rw [zy_bz_n (by omega)]; omega) (by decide) (fun H3 locs3 ws3 hx3 hm3 hp3 hf3 => ?_)
    refine lv_iconst (v := nI 1) hx0 hb0 rfl (by decide) ?_
    obtain ⟨t1, t2, tW⟩ := zr_put_fr (b := 0) (ws0 := ws0) H (f0 := 46) (by decide) hm3 hf3
    refine zv_ret hB hx3 rfl rfl rfl ⟨1, by decide, rfl, Or.inr (Or.inr ⟨7 :: S, w + 1, U + 1, n, zr_J_push hJ (x := 7) (by omega) (Or.inr ⟨rfl, rfl, by omega⟩) (tW (pW (uW hW))) ⟨(t1 4 (by decide)).trans ((p1 4 (by decide) (by decide)).trans q4), ⟨ke, hke, (t1 7 (by decide)).trans ((p1 7 (by decide) (by decide)).trans q7)⟩, (t1 47 (by decide)).trans hpu.2.1, hp3, (t1 48 (by decide)).trans ((p1 48 (by decide) (by decide)).trans q48), (t1 45 (by decide)).trans ((p1 45 (by decide) (by decide)).trans q45)⟩ (fun a ha => (t2 61 73 a (by decide) (by decide) rfl (by decide)).trans ((p61 a ha).trans (u2 61 73 a (by decide) (by decide) rfl (by decide) (by decide)))) (fun a ha => (t2 62 74 a (by decide) (by decide) rfl (by decide)).trans ((p62 a ha).trans (u2 62 74 a (by decide) (by decide) rfl (by decide) (by decide)))) ((t2 61 73 _ (by decide) (by decide) rfl (by decide)).trans hpu.2.2.1) ((t2 62 74 _ (by decide) (by decide) rfl (by decide)).trans hpu.2.2.2) (fun a => (t2 59 71 a (by decide) (by decide) rfl (by decide)).trans ((p59 a).trans (u2 59 71 a (by decide) (by decide) rfl (by decide) (by decide))))⟩)⟩
  · skip
    intro ls1 vs1 H1 locs1 tys1 ws1 hx1 hrow hst hcr hev hU1
    have l0 := zv_dl_of (ys := [nI (S.length + 1), nI w, nI U, nI (560 * 0 + n), nI ek]) H (Nat.le_of_ble_eq_true rfl) hrow (i := 0) rfl rfl
    have q47 : zy_rd ws1 (zy_ru Z 29) 47 0 = some (.int (nI (S.length + 1))) := zv_dc_of (ys := [nI (S.length + 1), nI w, nI U, nI (560 * 0 + n), nI ek]) H (Nat.le_of_ble_eq_true rfl) hcr (i := 0) rfl (by decide) rfl
    have q46 : zy_rd ws1 (zy_ru Z 29) 46 0 = some (.int (nI w)) := zv_dc_of (ys := [nI (S.length + 1), nI w, nI U, nI (560 * 0 + n), nI ek]) H (Nat.le_of_ble_eq_true rfl) hcr (i := 1) rfl (by decide) rfl
    have q48 : zy_rd ws1 (zy_ru Z 29) 48 0 = some (.int (nI (U + 1))) := by rw [← nI_add]; exact zv_dc_of (ys := [nI (S.length + 1), nI w, nI U, nI (560 * 0 + n), nI ek]) H (Nat.le_of_ble_eq_true rfl) hcr (i := 2) rfl (by decide) rfl
    have q45 : zy_rd ws1 (zy_ru Z 29) 45 0 = some (.int (nI (560 * 0 + n))) := zv_dc_of (ys := [nI (S.length + 1), nI w, nI U, nI (560 * 0 + n), nI ek]) H (Nat.le_of_ble_eq_true rfl) hcr (i := 3) rfl (by decide) rfl
    have q4 : zy_rd ws1 (zy_ru Z 29) 4 0 = some (.int (nI 0)) := zv_dc_of (ys := [nI (S.length + 1), nI w, nI U, nI (560 * 0 + n), nI ek]) H (Nat.le_of_ble_eq_true rfl) hcr (i := 4) rfl (by decide) rfl
    obtain ⟨ye, q7, e1, e2⟩ := zv_dc_7 (ys := [nI (S.length + 1), nI w, nI U, nI (560 * 0 + n), nI ek]) H hcr (i := 5) (key := 1345309) (lo := 2147483648) (hi := 2147485248) rfl (by decide) (by decide) (by decide)
    obtain ⟨ke, hke, rfl⟩ := zv_nn (n := 1600) e1 e2
    have hu29 := (zv_bd (ys := [nI (S.length + 1), nI w, nI U, nI (560 * 0 + n), nI ek]) H hev (i := 2) (lo := 2147483648) (hi := 2147483677) rfl (by decide +kernel) (by decide) (by decide)).2
    rw [zy_bz_n (by omega)] at hu29
    obtain ⟨u2, uW⟩ := zu_fr (b := 0) (ws0 := ws0) H HU hU1
    obtain ⟨v1, v2, v3, r, rfl, s1, s2, s3, s4⟩ := zy_SR3 hst
    cases r with
    | cons _ _ => exact s4.elim
    | nil =>
    have e2 : v2 = .int (nI 110) := zv_dv_of (ys := [nI (S.length + 1), nI w, nI U, nI (560 * 0 + n), nI ek]) H (Nat.le_of_ble_eq_true rfl) s2 rfl
    have e3 : v3 = .ref (zy_fa1 Z 29) := zv_dv_of (ys := [nI (S.length + 1), nI w, nI U, nI (560 * 0 + n), nI ek]) H (Nat.le_of_ble_eq_true rfl) s3 rfl
    subst e2
    subst e3
    obtain ⟨-, nb, rfl, -⟩ := (zy_r7 (by decide)).mp s1
    refine zv_ivM (As := [.int (nI 110), .int nb]) (rest := []) (q := (12, 378, 249, 0, 7, 227)) (y := zm_249) (zo_emit H HU (k := 560 * 0 + n) (x := nI 110) (y := nb) (by omega)) hB hx1 (List.mem_of_getElem? (i := 295) rfl) rfl rfl rfl (by decide) rfl (by decide) rfl rfl (Nat.zero_le _) ⟨rfl, q45⟩ rfl (by decide) ?_
    intro vs2 tys2 ws2 H2 locs2 hn2 hq2 hx2
    obtain ⟨rfl, hpu⟩ := hq2
    obtain ⟨p1, p59, p61, p62, pW⟩ := zr_emit_fr (b := 0) (ws0 := ws0) H hpu
    refine lv_iconst (v := nI 0) hx0 hb0 rfl (by decide) ?_
    refine zv_ret hB hx2 rfl rfl rfl ⟨0, by decide, rfl, Or.inr (Or.inr ⟨S, w, U + 1, n + 1, zr_J_let hJ (ch := nI 110) (by omega) (by decide) (pW (by omega) (by omega) (uW hW)) ⟨(p1 4 (by decide) (by decide)).trans q4, ⟨ke, hke, (p1 7 (by decide) (by decide)).trans q7⟩, (p1 47 (by decide) (by decide)).trans q47, (p1 46 (by decide) (by decide)).trans q46, (p1 48 (by decide) (by decide)).trans q48, hpu.2.1⟩ (fun a => (p61 a).trans (u2 61 73 a (by decide) (by decide) rfl (by decide) (by decide))) (fun a => (p62 a).trans (u2 62 74 a (by decide) (by decide) rfl (by decide) (by decide))) (fun a ha => (p59 a ha).trans (u2 59 71 a (by decide) (by decide) rfl (by decide) (by decide))) hpu.2.2.1⟩)⟩
  · skip
    intro ls1 vs1 H1 locs1 tys1 ws1 hx1 hrow hst hcr hev hU1
    have l0 := zv_dl_of (ys := [nI (S.length + 1), nI w, nI U, nI (560 * 0 + n), nI ek]) H (Nat.le_of_ble_eq_true rfl) hrow (i := 0) rfl rfl
    have q47 : zy_rd ws1 (zy_ru Z 29) 47 0 = some (.int (nI (S.length + 1))) := zv_dc_of (ys := [nI (S.length + 1), nI w, nI U, nI (560 * 0 + n), nI ek]) H (Nat.le_of_ble_eq_true rfl) hcr (i := 0) rfl (by decide) rfl
    have q46 : zy_rd ws1 (zy_ru Z 29) 46 0 = some (.int (nI w)) := zv_dc_of (ys := [nI (S.length + 1), nI w, nI U, nI (560 * 0 + n), nI ek]) H (Nat.le_of_ble_eq_true rfl) hcr (i := 1) rfl (by decide) rfl
    have q48 : zy_rd ws1 (zy_ru Z 29) 48 0 = some (.int (nI (U + 1))) := by rw [← nI_add]; exact zv_dc_of (ys := [nI (S.length + 1), nI w, nI U, nI (560 * 0 + n), nI ek]) H (Nat.le_of_ble_eq_true rfl) hcr (i := 2) rfl (by decide) rfl
    have q45 : zy_rd ws1 (zy_ru Z 29) 45 0 = some (.int (nI (560 * 0 + n))) := zv_dc_of (ys := [nI (S.length + 1), nI w, nI U, nI (560 * 0 + n), nI ek]) H (Nat.le_of_ble_eq_true rfl) hcr (i := 3) rfl (by decide) rfl
    have q4 : zy_rd ws1 (zy_ru Z 29) 4 0 = some (.int (nI 0)) := zv_dc_of (ys := [nI (S.length + 1), nI w, nI U, nI (560 * 0 + n), nI ek]) H (Nat.le_of_ble_eq_true rfl) hcr (i := 4) rfl (by decide) rfl
    obtain ⟨ye, q7, e1, e2⟩ := zv_dc_7 (ys := [nI (S.length + 1), nI w, nI U, nI (560 * 0 + n), nI ek]) H hcr (i := 5) (key := 1345309) (lo := 2147483648) (hi := 2147485248) rfl (by decide) (by decide) (by decide)
    obtain ⟨ke, hke, rfl⟩ := zv_nn (n := 1600) e1 e2
    have hu29 := (zv_bd (ys := [nI (S.length + 1), nI w, nI U, nI (560 * 0 + n), nI ek]) H hev (i := 2) (lo := 2147483648) (hi := 2147483677) rfl (by decide +kernel) (by decide) (by decide)).2
    rw [zy_bz_n (by omega)] at hu29
    obtain ⟨u2, uW⟩ := zu_fr (b := 0) (ws0 := ws0) H HU hU1
    obtain ⟨v1, v2, v3, r, rfl, s1, s2, s3, s4⟩ := zy_SR3 hst
    cases r with
    | cons _ _ => exact s4.elim
    | nil =>
    have e2 : v2 = .int (nI 98) := zv_dv_of (ys := [nI (S.length + 1), nI w, nI U, nI (560 * 0 + n), nI ek]) H (Nat.le_of_ble_eq_true rfl) s2 rfl
    have e3 : v3 = .ref (zy_fa1 Z 29) := zv_dv_of (ys := [nI (S.length + 1), nI w, nI U, nI (560 * 0 + n), nI ek]) H (Nat.le_of_ble_eq_true rfl) s3 rfl
    subst e2
    subst e3
    obtain ⟨-, nb, rfl, -⟩ := (zy_r7 (by decide)).mp s1
    refine zv_ivM (As := [.int (nI 98), .int nb]) (rest := []) (q := (12, 378, 249, 0, 7, 227)) (y := zm_249) (zo_emit H HU (k := 560 * 0 + n) (x := nI 98) (y := nb) (by omega)) hB hx1 (List.mem_of_getElem? (i := 295) rfl) rfl rfl rfl (by decide) rfl (by decide) rfl rfl (Nat.zero_le _) ⟨rfl, q45⟩ rfl (by decide) ?_
    intro vs2 tys2 ws2 H2 locs2 hn2 hq2 hx2
    obtain ⟨rfl, hpu⟩ := hq2
    obtain ⟨p1, p59, p61, p62, pW⟩ := zr_emit_fr (b := 0) (ws0 := ws0) H hpu
    refine lv_iconst (v := nI 0) hx0 hb0 rfl (by decide) ?_
    refine zv_ret hB hx2 rfl rfl rfl ⟨0, by decide, rfl, Or.inr (Or.inr ⟨S, w, U + 1, n + 1, zr_J_let hJ (ch := nI 98) (by omega) (by decide) (pW (by omega) (by omega) (uW hW)) ⟨(p1 4 (by decide) (by decide)).trans q4, ⟨ke, hke, (p1 7 (by decide) (by decide)).trans q7⟩, (p1 47 (by decide) (by decide)).trans q47, (p1 46 (by decide) (by decide)).trans q46, (p1 48 (by decide) (by decide)).trans q48, hpu.2.1⟩ (fun a => (p61 a).trans (u2 61 73 a (by decide) (by decide) rfl (by decide) (by decide))) (fun a => (p62 a).trans (u2 62 74 a (by decide) (by decide) rfl (by decide) (by decide))) (fun a ha => (p59 a ha).trans (u2 59 71 a (by decide) (by decide) rfl (by decide) (by decide))) hpu.2.2.1⟩)⟩
  · skip
    intro ls1 vs1 H1 locs1 tys1 ws1 hx1 hrow hst hcr hev hU1
    have l0 := zv_dl_of (ys := [nI (S.length + 1), nI w, nI U, nI (560 * 0 + n), nI ek]) H (Nat.le_of_ble_eq_true rfl) hrow (i := 0) rfl rfl
    have q47 : zy_rd ws1 (zy_ru Z 29) 47 0 = some (.int (nI (S.length + 1))) := zv_dc_of (ys := [nI (S.length + 1), nI w, nI U, nI (560 * 0 + n), nI ek]) H (Nat.le_of_ble_eq_true rfl) hcr (i := 0) rfl (by decide) rfl
    have q46 : zy_rd ws1 (zy_ru Z 29) 46 0 = some (.int (nI w)) := zv_dc_of (ys := [nI (S.length + 1), nI w, nI U, nI (560 * 0 + n), nI ek]) H (Nat.le_of_ble_eq_true rfl) hcr (i := 1) rfl (by decide) rfl
    have q48 : zy_rd ws1 (zy_ru Z 29) 48 0 = some (.int (nI (U + 1))) := by rw [← nI_add]; exact zv_dc_of (ys := [nI (S.length + 1), nI w, nI U, nI (560 * 0 + n), nI ek]) H (Nat.le_of_ble_eq_true rfl) hcr (i := 2) rfl (by decide) rfl
    have q45 : zy_rd ws1 (zy_ru Z 29) 45 0 = some (.int (nI (560 * 0 + n))) := zv_dc_of (ys := [nI (S.length + 1), nI w, nI U, nI (560 * 0 + n), nI ek]) H (Nat.le_of_ble_eq_true rfl) hcr (i := 3) rfl (by decide) rfl
    have q4 : zy_rd ws1 (zy_ru Z 29) 4 0 = some (.int (nI 0)) := zv_dc_of (ys := [nI (S.length + 1), nI w, nI U, nI (560 * 0 + n), nI ek]) H (Nat.le_of_ble_eq_true rfl) hcr (i := 4) rfl (by decide) rfl
    obtain ⟨ye, q7, e1, e2⟩ := zv_dc_7 (ys := [nI (S.length + 1), nI w, nI U, nI (560 * 0 + n), nI ek]) H hcr (i := 5) (key := 1345309) (lo := 2147483648) (hi := 2147485248) rfl (by decide) (by decide) (by decide)
    obtain ⟨ke, hke, rfl⟩ := zv_nn (n := 1600) e1 e2
    have hu29 := (zv_bd (ys := [nI (S.length + 1), nI w, nI U, nI (560 * 0 + n), nI ek]) H hev (i := 2) (lo := 2147483648) (hi := 2147483677) rfl (by decide +kernel) (by decide) (by decide)).2
    rw [zy_bz_n (by omega)] at hu29
    obtain ⟨u2, uW⟩ := zu_fr (b := 0) (ws0 := ws0) H HU hU1
    obtain ⟨v1, v2, v3, r, rfl, s1, s2, s3, s4⟩ := zy_SR3 hst
    cases r with
    | cons _ _ => exact s4.elim
    | nil =>
    have e2 : v2 = .int (nI 116) := zv_dv_of (ys := [nI (S.length + 1), nI w, nI U, nI (560 * 0 + n), nI ek]) H (Nat.le_of_ble_eq_true rfl) s2 rfl
    have e3 : v3 = .ref (zy_fa1 Z 29) := zv_dv_of (ys := [nI (S.length + 1), nI w, nI U, nI (560 * 0 + n), nI ek]) H (Nat.le_of_ble_eq_true rfl) s3 rfl
    subst e2
    subst e3
    obtain ⟨-, nb, rfl, -⟩ := (zy_r7 (by decide)).mp s1
    refine zv_ivM (As := [.int (nI 116), .int nb]) (rest := []) (q := (12, 378, 249, 0, 7, 227)) (y := zm_249) (zo_emit H HU (k := 560 * 0 + n) (x := nI 116) (y := nb) (by omega)) hB hx1 (List.mem_of_getElem? (i := 295) rfl) rfl rfl rfl (by decide) rfl (by decide) rfl rfl (Nat.zero_le _) ⟨rfl, q45⟩ rfl (by decide) ?_
    intro vs2 tys2 ws2 H2 locs2 hn2 hq2 hx2
    obtain ⟨rfl, hpu⟩ := hq2
    obtain ⟨p1, p59, p61, p62, pW⟩ := zr_emit_fr (b := 0) (ws0 := ws0) H hpu
    refine lv_iconst (v := nI 0) hx0 hb0 rfl (by decide) ?_
    refine zv_ret hB hx2 rfl rfl rfl ⟨0, by decide, rfl, Or.inr (Or.inr ⟨S, w, U + 1, n + 1, zr_J_let hJ (ch := nI 116) (by omega) (by decide) (pW (by omega) (by omega) (uW hW)) ⟨(p1 4 (by decide) (by decide)).trans q4, ⟨ke, hke, (p1 7 (by decide) (by decide)).trans q7⟩, (p1 47 (by decide) (by decide)).trans q47, (p1 46 (by decide) (by decide)).trans q46, (p1 48 (by decide) (by decide)).trans q48, hpu.2.1⟩ (fun a => (p61 a).trans (u2 61 73 a (by decide) (by decide) rfl (by decide) (by decide))) (fun a => (p62 a).trans (u2 62 74 a (by decide) (by decide) rfl (by decide) (by decide))) (fun a ha => (p59 a ha).trans (u2 59 71 a (by decide) (by decide) rfl (by decide) (by decide))) hpu.2.2.1⟩)⟩
  · skip
    intro ls1 vs1 H1 locs1 tys1 ws1 hx1 hrow hst hcr hev hU1
    have l0 := zv_dl_of (ys := [nI (S.length + 1), nI w, nI U, nI (560 * 0 + n), nI ek]) H (Nat.le_of_ble_eq_true rfl) hrow (i := 0) rfl rfl
    have q47 : zy_rd ws1 (zy_ru Z 29) 47 0 = some (.int (nI (S.length + 1))) := zv_dc_of (ys := [nI (S.length + 1), nI w, nI U, nI (560 * 0 + n), nI ek]) H (Nat.le_of_ble_eq_true rfl) hcr (i := 0) rfl (by decide) rfl
    have q46 : zy_rd ws1 (zy_ru Z 29) 46 0 = some (.int (nI w)) := zv_dc_of (ys := [nI (S.length + 1), nI w, nI U, nI (560 * 0 + n), nI ek]) H (Nat.le_of_ble_eq_true rfl) hcr (i := 1) rfl (by decide) rfl
    have q48 : zy_rd ws1 (zy_ru Z 29) 48 0 = some (.int (nI (U + 1))) := by rw [← nI_add]; exact zv_dc_of (ys := [nI (S.length + 1), nI w, nI U, nI (560 * 0 + n), nI ek]) H (Nat.le_of_ble_eq_true rfl) hcr (i := 2) rfl (by decide) rfl
    have q45 : zy_rd ws1 (zy_ru Z 29) 45 0 = some (.int (nI (560 * 0 + n))) := zv_dc_of (ys := [nI (S.length + 1), nI w, nI U, nI (560 * 0 + n), nI ek]) H (Nat.le_of_ble_eq_true rfl) hcr (i := 3) rfl (by decide) rfl
    have q4 : zy_rd ws1 (zy_ru Z 29) 4 0 = some (.int (nI 0)) := zv_dc_of (ys := [nI (S.length + 1), nI w, nI U, nI (560 * 0 + n), nI ek]) H (Nat.le_of_ble_eq_true rfl) hcr (i := 4) rfl (by decide) rfl
    obtain ⟨ye, q7, e1, e2⟩ := zv_dc_7 (ys := [nI (S.length + 1), nI w, nI U, nI (560 * 0 + n), nI ek]) H hcr (i := 5) (key := 1345309) (lo := 2147483648) (hi := 2147485248) rfl (by decide) (by decide) (by decide)
    obtain ⟨ke, hke, rfl⟩ := zv_nn (n := 1600) e1 e2
    have hu29 := (zv_bd (ys := [nI (S.length + 1), nI w, nI U, nI (560 * 0 + n), nI ek]) H hev (i := 2) (lo := 2147483648) (hi := 2147483677) rfl (by decide +kernel) (by decide) (by decide)).2
    rw [zy_bz_n (by omega)] at hu29
    obtain ⟨u2, uW⟩ := zu_fr (b := 0) (ws0 := ws0) H HU hU1
    obtain ⟨v1, v2, v3, r, rfl, s1, s2, s3, s4⟩ := zy_SR3 hst
    cases r with
    | cons _ _ => exact s4.elim
    | nil =>
    have e2 : v2 = .int (nI 100) := zv_dv_of (ys := [nI (S.length + 1), nI w, nI U, nI (560 * 0 + n), nI ek]) H (Nat.le_of_ble_eq_true rfl) s2 rfl
    have e3 : v3 = .ref (zy_fa1 Z 29) := zv_dv_of (ys := [nI (S.length + 1), nI w, nI U, nI (560 * 0 + n), nI ek]) H (Nat.le_of_ble_eq_true rfl) s3 rfl
    subst e2
    subst e3
    obtain ⟨-, nb, rfl, -⟩ := (zy_r7 (by decide)).mp s1
    refine zv_ivM (As := [.int (nI 100), .int nb]) (rest := []) (q := (12, 378, 249, 0, 7, 227)) (y := zm_249) (zo_emit H HU (k := 560 * 0 + n) (x := nI 100) (y := nb) (by omega)) hB hx1 (List.mem_of_getElem? (i := 295) rfl) rfl rfl rfl (by decide) rfl (by decide) rfl rfl (Nat.zero_le _) ⟨rfl, q45⟩ rfl (by decide) ?_
    intro vs2 tys2 ws2 H2 locs2 hn2 hq2 hx2
    obtain ⟨rfl, hpu⟩ := hq2
    obtain ⟨p1, p59, p61, p62, pW⟩ := zr_emit_fr (b := 0) (ws0 := ws0) H hpu
    refine lv_iconst (v := nI 0) hx0 hb0 rfl (by decide) ?_
    refine zv_ret hB hx2 rfl rfl rfl ⟨0, by decide, rfl, Or.inr (Or.inr ⟨S, w, U + 1, n + 1, zr_J_let hJ (ch := nI 100) (by omega) (by decide) (pW (by omega) (by omega) (uW hW)) ⟨(p1 4 (by decide) (by decide)).trans q4, ⟨ke, hke, (p1 7 (by decide) (by decide)).trans q7⟩, (p1 47 (by decide) (by decide)).trans q47, (p1 46 (by decide) (by decide)).trans q46, (p1 48 (by decide) (by decide)).trans q48, hpu.2.1⟩ (fun a => (p61 a).trans (u2 61 73 a (by decide) (by decide) rfl (by decide) (by decide))) (fun a => (p62 a).trans (u2 62 74 a (by decide) (by decide) rfl (by decide) (by decide))) (fun a ha => (p59 a ha).trans (u2 59 71 a (by decide) (by decide) rfl (by decide) (by decide))) hpu.2.2.1⟩)⟩
  · skip
    intro ls1 vs1 H1 locs1 tys1 ws1 hx1 hrow hst hcr hev hU1
    have l0 := zv_dl_of (ys := [nI (S.length + 1), nI w, nI U, nI (560 * 0 + n), nI ek]) H (Nat.le_of_ble_eq_true rfl) hrow (i := 0) rfl rfl
    have q47 : zy_rd ws1 (zy_ru Z 29) 47 0 = some (.int (nI (S.length + 1))) := zv_dc_of (ys := [nI (S.length + 1), nI w, nI U, nI (560 * 0 + n), nI ek]) H (Nat.le_of_ble_eq_true rfl) hcr (i := 0) rfl (by decide) rfl
    have q46 : zy_rd ws1 (zy_ru Z 29) 46 0 = some (.int (nI w)) := zv_dc_of (ys := [nI (S.length + 1), nI w, nI U, nI (560 * 0 + n), nI ek]) H (Nat.le_of_ble_eq_true rfl) hcr (i := 1) rfl (by decide) rfl
    have q48 : zy_rd ws1 (zy_ru Z 29) 48 0 = some (.int (nI (U + 1))) := by rw [← nI_add]; exact zv_dc_of (ys := [nI (S.length + 1), nI w, nI U, nI (560 * 0 + n), nI ek]) H (Nat.le_of_ble_eq_true rfl) hcr (i := 2) rfl (by decide) rfl
    have q45 : zy_rd ws1 (zy_ru Z 29) 45 0 = some (.int (nI (560 * 0 + n))) := zv_dc_of (ys := [nI (S.length + 1), nI w, nI U, nI (560 * 0 + n), nI ek]) H (Nat.le_of_ble_eq_true rfl) hcr (i := 3) rfl (by decide) rfl
    have q4 : zy_rd ws1 (zy_ru Z 29) 4 0 = some (.int (nI 0)) := zv_dc_of (ys := [nI (S.length + 1), nI w, nI U, nI (560 * 0 + n), nI ek]) H (Nat.le_of_ble_eq_true rfl) hcr (i := 4) rfl (by decide) rfl
    obtain ⟨ye, q7, e1, e2⟩ := zv_dc_7 (ys := [nI (S.length + 1), nI w, nI U, nI (560 * 0 + n), nI ek]) H hcr (i := 5) (key := 1345309) (lo := 2147483648) (hi := 2147485248) rfl (by decide) (by decide) (by decide)
    obtain ⟨ke, hke, rfl⟩ := zv_nn (n := 1600) e1 e2
    have hu29 := (zv_bd (ys := [nI (S.length + 1), nI w, nI U, nI (560 * 0 + n), nI ek]) H hev (i := 2) (lo := 2147483648) (hi := 2147483677) rfl (by decide +kernel) (by decide) (by decide)).2
    rw [zy_bz_n (by omega)] at hu29
    obtain ⟨u2, uW⟩ := zu_fr (b := 0) (ws0 := ws0) H HU hU1
    obtain ⟨v1, v2, v3, r, rfl, s1, s2, s3, s4⟩ := zy_SR3 hst
    cases r with
    | cons _ _ => exact s4.elim
    | nil =>
    have e2 : v2 = .int (nI 112) := zv_dv_of (ys := [nI (S.length + 1), nI w, nI U, nI (560 * 0 + n), nI ek]) H (Nat.le_of_ble_eq_true rfl) s2 rfl
    have e3 : v3 = .ref (zy_fa1 Z 29) := zv_dv_of (ys := [nI (S.length + 1), nI w, nI U, nI (560 * 0 + n), nI ek]) H (Nat.le_of_ble_eq_true rfl) s3 rfl
    subst e2
    subst e3
    obtain ⟨-, nb, rfl, -⟩ := (zy_r7 (by decide)).mp s1
    refine zv_ivM (As := [.int (nI 112), .int nb]) (rest := []) (q := (12, 378, 249, 0, 7, 227)) (y := zm_249) (zo_emit H HU (k := 560 * 0 + n) (x := nI 112) (y := nb) (by omega)) hB hx1 (List.mem_of_getElem? (i := 295) rfl) rfl rfl rfl (by decide) rfl (by decide) rfl rfl (Nat.zero_le _) ⟨rfl, q45⟩ rfl (by decide) ?_
    intro vs2 tys2 ws2 H2 locs2 hn2 hq2 hx2
    obtain ⟨rfl, hpu⟩ := hq2
    obtain ⟨p1, p59, p61, p62, pW⟩ := zr_emit_fr (b := 0) (ws0 := ws0) H hpu
    refine lv_iconst (v := nI 0) hx0 hb0 rfl (by decide) ?_
    refine zv_ret hB hx2 rfl rfl rfl ⟨0, by decide, rfl, Or.inr (Or.inr ⟨S, w, U + 1, n + 1, zr_J_let hJ (ch := nI 112) (by omega) (by decide) (pW (by omega) (by omega) (uW hW)) ⟨(p1 4 (by decide) (by decide)).trans q4, ⟨ke, hke, (p1 7 (by decide) (by decide)).trans q7⟩, (p1 47 (by decide) (by decide)).trans q47, (p1 46 (by decide) (by decide)).trans q46, (p1 48 (by decide) (by decide)).trans q48, hpu.2.1⟩ (fun a => (p61 a).trans (u2 61 73 a (by decide) (by decide) rfl (by decide) (by decide))) (fun a => (p62 a).trans (u2 62 74 a (by decide) (by decide) rfl (by decide) (by decide))) (fun a ha => (p59 a ha).trans (u2 59 71 a (by decide) (by decide) rfl (by decide) (by decide))) hpu.2.2.1⟩)⟩
set_option maxHeartbeats 2000000 in
set_option maxRecDepth 20000 in
theorem zo_unit1 (H : zy_H0 Z) (HU : zy_UQ zy_fg Z) {ws0 : va_W} {S : List Nat} {w U n : Nat} (h0 : zy_rd ws0 (zy_ru Z 29) 44 0 = some (.int (nI 1))) : zy_OkP l D N0 zy_T Z 253 5 (fun av ws => av = [.ref (zy_fa1 Z 29)] ∧ zr_J Z 1 ws0 ws true S w U n) (fun _ _ vs ws' => zr_Po Z 1 ws0 (zr_m true S w U) vs ws') := by
  refine zy_handP (y := zm_253) H HU rfl (fun av ws h => by rw [h.1]; exact Nat.le_of_ble_eq_true rfl) ?_
  intro d hd av tys ws ⟨e, hJ⟩ p en R s m below meth c hB0 ls hl hx
  subst e
  obtain ⟨d, rfl⟩ : ∃ d', d = d' + 1 := ⟨d - 1, by omega⟩
  have l0 : ls[0]? = some (.val (.ref (zy_fa1 Z 29))) := hl (0, _) (List.mem_of_getElem? (i := 0) rfl)
  have hB := zy_Fr_fin zul_unit_ok hB0
  obtain ⟨hx0, hb0, -⟩ := hB.2.2.1 Z (zy_le_rf Z)
  have hB1 : zy_Fr p l R s m [.ref (zy_fa1 Z 29)].toArray meth c N0 Z zc_unit (4 + (d - 3)) := by rw [show 4 + (d - 3) = d + 1 by omega]; exact hB
  have hJ' := hJ
  obtain ⟨hW, ⟨f4, ⟨ek, he, f7⟩, f47, f46, f48, f45⟩, hSt, hPu, hPo⟩ := hJ'
  obtain ⟨hl1, hl2⟩ := zr_Pu_len hPu
  have hw7 := hPu.2.1
  have hU30 := hPu.2.2.1
  have f44 : zy_rd ws (zy_ru Z 29) 44 0 = some (.int (nI 1)) := (zr_W_f H hW (by decide) (by decide)).trans h0
  refine zy_seg (k := d - 3) hB1 (zy_g3 (zy_g1 (zo_66 H) zy_g0) zy_g2) [nI (S.length + 1), nI w, nI U, nI (560 * 1 + n), nI ek] zub_u [(0, 168402)] [] [(1355549, 17), (1355293, 33), (1355805, 49), (1355037, 65), (1345309, 81), (1344541, 4), (1354781, 20)] rfl (by decide) (zv_hb (by omega) (by omega) (by decide) (zv_hb (by omega) (by omega) (by decide) (zv_hb (by omega) (by omega) (by decide) (zv_hb (by omega) (by omega) (by decide) (zv_hb (by omega) (by omega) (by decide) zy_hb0))))) (zv_rtK hB (fun vs ws' po hpo hsr hcr hU => ?_)) zy_Gs0 hx (by decide +kernel) (zy_fa ⟨_, l0, rfl⟩ zy_fa0) rfl (zy_fa ⟨_, f47, rfl⟩ (zy_fa ⟨_, f46, rfl⟩ (zy_fa ⟨_, f48, rfl⟩ (zy_fa ⟨_, f45, rfl⟩ (zy_fa ⟨_, f7, rfl⟩ (zy_fa ⟨_, f4, rfl⟩ (zy_fa ⟨_, f44, rfl⟩ zy_fa0))))))) zuk_u1 (zy_fa ?_ (zy_fa ?_ (zy_fa ?_ (zy_fa ?_ (zy_fa ?_ (zy_fa ?_ (zy_fa ?_ (zy_fa ?_ zy_fa0))))))))
  · rcases List.mem_singleton.mp hpo with rfl
    obtain ⟨u2, uW⟩ := zu_fr (b := 1) (ws0 := ws0) H HU hU
    obtain ⟨fk, k1, k2, -⟩ := zv_dc_7 (ys := []) H (hcr _ List.mem_cons_self) (i := 0) (key := 1344541) (lo := 2147483649) (hi := 2147483653) rfl (by decide) (by decide) (by decide)
    obtain ⟨ye, q7, e1, e2⟩ := zv_dc_7 (ys := []) H (hcr _ (List.mem_cons_of_mem _ List.mem_cons_self)) (i := 0) (key := 1345309) (lo := 2147483648) (hi := 2147485248) rfl (by decide) (by decide) (by decide)
    obtain ⟨ke, hke, rfl⟩ := zv_nn (n := 1600) e1 e2
    refine ⟨1, by decide, zv_dm_of (ys := []) H (by decide) hsr rfl, Or.inl ⟨uW hW, ⟨fk, k1, fun z => ?_⟩, ⟨ke, hke, q7⟩⟩⟩
    rw [z, show zx_bz 0 = 2147483648 from by decide] at k2
    omega
  · skip
    intro ls1 vs1 H1 locs1 tys1 ws1 hx1 hrow hst hcr hev hU1
    have l0 := zv_dl_of (ys := [nI (S.length + 1), nI w, nI U, nI (560 * 1 + n), nI ek]) H (Nat.le_of_ble_eq_true rfl) hrow (i := 0) rfl rfl
    have q47 : zy_rd ws1 (zy_ru Z 29) 47 0 = some (.int (nI (S.length + 1))) := zv_dc_of (ys := [nI (S.length + 1), nI w, nI U, nI (560 * 1 + n), nI ek]) H (Nat.le_of_ble_eq_true rfl) hcr (i := 0) rfl (by decide) rfl
    have q46 : zy_rd ws1 (zy_ru Z 29) 46 0 = some (.int (nI w)) := zv_dc_of (ys := [nI (S.length + 1), nI w, nI U, nI (560 * 1 + n), nI ek]) H (Nat.le_of_ble_eq_true rfl) hcr (i := 1) rfl (by decide) rfl
    have q48 : zy_rd ws1 (zy_ru Z 29) 48 0 = some (.int (nI U)) := zv_dc_of (ys := [nI (S.length + 1), nI w, nI U, nI (560 * 1 + n), nI ek]) H (Nat.le_of_ble_eq_true rfl) hcr (i := 2) rfl (by decide) rfl
    have q45 : zy_rd ws1 (zy_ru Z 29) 45 0 = some (.int (nI (560 * 1 + n))) := zv_dc_of (ys := [nI (S.length + 1), nI w, nI U, nI (560 * 1 + n), nI ek]) H (Nat.le_of_ble_eq_true rfl) hcr (i := 3) rfl (by decide) rfl
    have q4 : zy_rd ws1 (zy_ru Z 29) 4 0 = some (.int (nI 0)) := zv_dc_of (ys := [nI (S.length + 1), nI w, nI U, nI (560 * 1 + n), nI ek]) H (Nat.le_of_ble_eq_true rfl) hcr (i := 4) rfl (by decide) rfl
    obtain ⟨ye, q7, e1, e2⟩ := zv_dc_7 (ys := [nI (S.length + 1), nI w, nI U, nI (560 * 1 + n), nI ek]) H hcr (i := 5) (key := 1345309) (lo := 2147483648) (hi := 2147485248) rfl (by decide) (by decide) (by decide)
    obtain ⟨ke, hke, rfl⟩ := zv_nn (n := 1600) e1 e2
    have hw6 := (zv_bd (ys := [nI (S.length + 1), nI w, nI U, nI (560 * 1 + n), nI ek]) H hev (i := 1) (lo := 2147483648) (hi := 2147483654) rfl (by decide +kernel) (by decide) (by decide)).2
    rw [zy_bz_n (by omega)] at hw6
    obtain ⟨u2, uW⟩ := zu_fr (b := 1) (ws0 := ws0) H HU hU1
    have e : vs1 = [.int (nI 126), .int (nI 3), .ref (zy_fa1 Z 29)] := zv_dm_of (ys := [nI (S.length + 1), nI w, nI U, nI (560 * 1 + n), nI ek]) H (Nat.le_of_ble_eq_true rfl) hst rfl
    subst e
    refine zv_ivM (As := [.int (nI 3), .int (nI 126)]) (rest := []) (q := (12, 366, 248, 0, 7, 211)) (y := zm_248) (zo_push H HU (k := S.length + 1) (x := nI 3) (y := nI 126) (by omega)) hB hx1 (List.mem_of_getElem? (i := 290) rfl) rfl rfl rfl (by decide) rfl (by decide) rfl rfl (Nat.zero_le _) ⟨rfl, q47⟩ rfl (by decide) ?_
    intro vs2 tys2 ws2 H2 locs2 hn2 hq2 hx2
    obtain ⟨rfl, hpu⟩ := hq2
    obtain ⟨p1, p59, p61, p62, pW⟩ := zr_push_fr (b := 1) (ws0 := ws0) H hpu
    have q46b : zy_rd ws2 (zy_ru Z 29) 46 0 = some (.int (nI w)) := (p1 46 (by decide) (by decide)).trans q46
    refine lv_aload_n hx0 hb0 rfl rfl l0 ?_
    refine lv_dup hx0 hb0 rfl rfl ?_
    refine zv_get hB hx2 (q := (12, 363, 12, 46, 6, 147)) (List.mem_of_getElem? (i := 163) rfl) rfl rfl rfl rfl rfl q46b ?_
    refine lv_iconst (v := nI 1) hx0 hb0 rfl (by decide) ?_
    refine lv_iadd hx0 hb0 rfl ?_
    rw [nI_add]
    refine zv_put hB hx2 (q := (12, 363, 12, 46, 6, 147)) (f := 46) (lo := 2147483648) (hi2 := 2147483655) (y := nI (w + 1)) (List.mem_of_getElem? (i := 163) rfl) rfl rfl rfl rfl rfl (by decide +kernel) (by decide +kernel) ⟨fun _ => ⟨_, rfl⟩, fun h => absurd h (by decide +kernel), fun h => absurd h (by decide +kernel)⟩ (by decide +kernel) (by rw [zy_bz_n (by omega)]; omega) (by rw [zy_bz_n (by omega)]; omega) (by decide) (fun H3 locs3 ws3 hx3 hm3 hp3 hf3 => ?_)
    refine lv_iconst (v := nI 1) hx0 hb0 rfl (by decide) ?_
    obtain ⟨t1, t2, tW⟩ := zr_put_fr (b := 1) (ws0 := ws0) H (f0 := 46) (by decide) hm3 hf3
    refine zv_ret hB hx3 rfl rfl rfl ⟨1, by decide, rfl, Or.inr (Or.inr ⟨3 :: S, w + 1, U, n, zr_J_push hJ (x := 3) (by omega) (Or.inl ⟨rfl, rfl⟩) (tW (pW (uW hW))) ⟨(t1 4 (by decide)).trans ((p1 4 (by decide) (by decide)).trans q4), ⟨ke, hke, (t1 7 (by decide)).trans ((p1 7 (by decide) (by decide)).trans q7)⟩, (t1 47 (by decide)).trans hpu.2.1, hp3, (t1 48 (by decide)).trans ((p1 48 (by decide) (by decide)).trans q48), (t1 45 (by decide)).trans ((p1 45 (by decide) (by decide)).trans q45)⟩ (fun a ha => (t2 61 73 a (by decide) (by decide) rfl (by decide)).trans ((p61 a ha).trans (u2 61 73 a (by decide) (by decide) rfl (by decide) (by decide)))) (fun a ha => (t2 62 74 a (by decide) (by decide) rfl (by decide)).trans ((p62 a ha).trans (u2 62 74 a (by decide) (by decide) rfl (by decide) (by decide)))) ((t2 61 73 _ (by decide) (by decide) rfl (by decide)).trans hpu.2.2.1) ((t2 62 74 _ (by decide) (by decide) rfl (by decide)).trans hpu.2.2.2) (fun a => (t2 59 71 a (by decide) (by decide) rfl (by decide)).trans ((p59 a).trans (u2 59 71 a (by decide) (by decide) rfl (by decide) (by decide))))⟩)⟩
  · skip
    intro ls1 vs1 H1 locs1 tys1 ws1 hx1 hrow hst hcr hev hU1
    have l0 := zv_dl_of (ys := [nI (S.length + 1), nI w, nI U, nI (560 * 1 + n), nI ek]) H (Nat.le_of_ble_eq_true rfl) hrow (i := 0) rfl rfl
    have q47 : zy_rd ws1 (zy_ru Z 29) 47 0 = some (.int (nI (S.length + 1))) := zv_dc_of (ys := [nI (S.length + 1), nI w, nI U, nI (560 * 1 + n), nI ek]) H (Nat.le_of_ble_eq_true rfl) hcr (i := 0) rfl (by decide) rfl
    have q46 : zy_rd ws1 (zy_ru Z 29) 46 0 = some (.int (nI w)) := zv_dc_of (ys := [nI (S.length + 1), nI w, nI U, nI (560 * 1 + n), nI ek]) H (Nat.le_of_ble_eq_true rfl) hcr (i := 1) rfl (by decide) rfl
    have hu30 := zv_bd (ys := [nI (S.length + 1), nI w, nI U, nI (560 * 1 + n), nI ek]) H hev (i := 2) (lo := 2147483678) (hi := 2147483678) rfl (by decide +kernel) (by decide) (by decide)
    rw [zy_bz_n (by omega)] at hu30
    have q48 : zy_rd ws1 (zy_ru Z 29) 48 0 = some (.int (nI U)) := by rw [show U = 30 by omega]; exact zv_dc_of (ys := [nI (S.length + 1), nI w, nI U, nI (560 * 1 + n), nI ek]) H (Nat.le_of_ble_eq_true rfl) hcr (i := 2) rfl (by decide) rfl
    have q45 : zy_rd ws1 (zy_ru Z 29) 45 0 = some (.int (nI (560 * 1 + n))) := zv_dc_of (ys := [nI (S.length + 1), nI w, nI U, nI (560 * 1 + n), nI ek]) H (Nat.le_of_ble_eq_true rfl) hcr (i := 3) rfl (by decide) rfl
    have q4 : zy_rd ws1 (zy_ru Z 29) 4 0 = some (.int (nI 0)) := zv_dc_of (ys := [nI (S.length + 1), nI w, nI U, nI (560 * 1 + n), nI ek]) H (Nat.le_of_ble_eq_true rfl) hcr (i := 4) rfl (by decide) rfl
    obtain ⟨ye, q7, e1, e2⟩ := zv_dc_7 (ys := [nI (S.length + 1), nI w, nI U, nI (560 * 1 + n), nI ek]) H hcr (i := 5) (key := 1345309) (lo := 2147483648) (hi := 2147485248) rfl (by decide) (by decide) (by decide)
    obtain ⟨ke, hke, rfl⟩ := zv_nn (n := 1600) e1 e2
    have hw6 := (zv_bd (ys := [nI (S.length + 1), nI w, nI U, nI (560 * 1 + n), nI ek]) H hev (i := 1) (lo := 2147483648) (hi := 2147483654) rfl (by decide +kernel) (by decide) (by decide)).2
    rw [zy_bz_n (by omega)] at hw6
    obtain ⟨u2, uW⟩ := zu_fr (b := 1) (ws0 := ws0) H HU hU1
    have e : vs1 = [.int (nI 126), .int (nI 3), .ref (zy_fa1 Z 29)] := zv_dm_of (ys := [nI (S.length + 1), nI w, nI U, nI (560 * 1 + n), nI ek]) H (Nat.le_of_ble_eq_true rfl) hst rfl
    subst e
    refine zv_ivM (As := [.int (nI 3), .int (nI 126)]) (rest := []) (q := (12, 366, 248, 0, 7, 211)) (y := zm_248) (zo_push H HU (k := S.length + 1) (x := nI 3) (y := nI 126) (by omega)) hB hx1 (List.mem_of_getElem? (i := 290) rfl) rfl rfl rfl (by decide) rfl (by decide) rfl rfl (Nat.zero_le _) ⟨rfl, q47⟩ rfl (by decide) ?_
    intro vs2 tys2 ws2 H2 locs2 hn2 hq2 hx2
    obtain ⟨rfl, hpu⟩ := hq2
    obtain ⟨p1, p59, p61, p62, pW⟩ := zr_push_fr (b := 1) (ws0 := ws0) H hpu
    have q46b : zy_rd ws2 (zy_ru Z 29) 46 0 = some (.int (nI w)) := (p1 46 (by decide) (by decide)).trans q46
    refine lv_aload_n hx0 hb0 rfl rfl l0 ?_
    refine lv_dup hx0 hb0 rfl rfl ?_
    refine zv_get hB hx2 (q := (12, 363, 12, 46, 6, 147)) (List.mem_of_getElem? (i := 163) rfl) rfl rfl rfl rfl rfl q46b ?_
    refine lv_iconst (v := nI 1) hx0 hb0 rfl (by decide) ?_
    refine lv_iadd hx0 hb0 rfl ?_
    rw [nI_add]
    refine zv_put hB hx2 (q := (12, 363, 12, 46, 6, 147)) (f := 46) (lo := 2147483648) (hi2 := 2147483655) (y := nI (w + 1)) (List.mem_of_getElem? (i := 163) rfl) rfl rfl rfl rfl rfl (by decide +kernel) (by decide +kernel) ⟨fun _ => ⟨_, rfl⟩, fun h => absurd h (by decide +kernel), fun h => absurd h (by decide +kernel)⟩ (by decide +kernel) (by rw [zy_bz_n (by omega)]; omega) (by rw [zy_bz_n (by omega)]; omega) (by decide) (fun H3 locs3 ws3 hx3 hm3 hp3 hf3 => ?_)
    refine lv_iconst (v := nI 1) hx0 hb0 rfl (by decide) ?_
    obtain ⟨t1, t2, tW⟩ := zr_put_fr (b := 1) (ws0 := ws0) H (f0 := 46) (by decide) hm3 hf3
    refine zv_ret hB hx3 rfl rfl rfl ⟨1, by decide, rfl, Or.inr (Or.inr ⟨3 :: S, w + 1, U, n, zr_J_push hJ (x := 3) (by omega) (Or.inl ⟨rfl, rfl⟩) (tW (pW (uW hW))) ⟨(t1 4 (by decide)).trans ((p1 4 (by decide) (by decide)).trans q4), ⟨ke, hke, (t1 7 (by decide)).trans ((p1 7 (by decide) (by decide)).trans q7)⟩, (t1 47 (by decide)).trans hpu.2.1, hp3, (t1 48 (by decide)).trans ((p1 48 (by decide) (by decide)).trans q48), (t1 45 (by decide)).trans ((p1 45 (by decide) (by decide)).trans q45)⟩ (fun a ha => (t2 61 73 a (by decide) (by decide) rfl (by decide)).trans ((p61 a ha).trans (u2 61 73 a (by decide) (by decide) rfl (by decide) (by decide)))) (fun a ha => (t2 62 74 a (by decide) (by decide) rfl (by decide)).trans ((p62 a ha).trans (u2 62 74 a (by decide) (by decide) rfl (by decide) (by decide)))) ((t2 61 73 _ (by decide) (by decide) rfl (by decide)).trans hpu.2.2.1) ((t2 62 74 _ (by decide) (by decide) rfl (by decide)).trans hpu.2.2.2) (fun a => (t2 59 71 a (by decide) (by decide) rfl (by decide)).trans ((p59 a).trans (u2 59 71 a (by decide) (by decide) rfl (by decide) (by decide))))⟩)⟩
  · skip
    intro ls1 vs1 H1 locs1 tys1 ws1 hx1 hrow hst hcr hev hU1
    have l0 := zv_dl_of (ys := [nI (S.length + 1), nI w, nI U, nI (560 * 1 + n), nI ek]) H (Nat.le_of_ble_eq_true rfl) hrow (i := 0) rfl rfl
    have q47 : zy_rd ws1 (zy_ru Z 29) 47 0 = some (.int (nI (S.length + 1))) := zv_dc_of (ys := [nI (S.length + 1), nI w, nI U, nI (560 * 1 + n), nI ek]) H (Nat.le_of_ble_eq_true rfl) hcr (i := 0) rfl (by decide) rfl
    have q46 : zy_rd ws1 (zy_ru Z 29) 46 0 = some (.int (nI w)) := zv_dc_of (ys := [nI (S.length + 1), nI w, nI U, nI (560 * 1 + n), nI ek]) H (Nat.le_of_ble_eq_true rfl) hcr (i := 1) rfl (by decide) rfl
    have q48 : zy_rd ws1 (zy_ru Z 29) 48 0 = some (.int (nI (U + 1))) := by rw [← nI_add]; exact zv_dc_of (ys := [nI (S.length + 1), nI w, nI U, nI (560 * 1 + n), nI ek]) H (Nat.le_of_ble_eq_true rfl) hcr (i := 2) rfl (by decide) rfl
    have q45 : zy_rd ws1 (zy_ru Z 29) 45 0 = some (.int (nI (560 * 1 + n))) := zv_dc_of (ys := [nI (S.length + 1), nI w, nI U, nI (560 * 1 + n), nI ek]) H (Nat.le_of_ble_eq_true rfl) hcr (i := 3) rfl (by decide) rfl
    have q4 : zy_rd ws1 (zy_ru Z 29) 4 0 = some (.int (nI 0)) := zv_dc_of (ys := [nI (S.length + 1), nI w, nI U, nI (560 * 1 + n), nI ek]) H (Nat.le_of_ble_eq_true rfl) hcr (i := 4) rfl (by decide) rfl
    obtain ⟨ye, q7, e1, e2⟩ := zv_dc_7 (ys := [nI (S.length + 1), nI w, nI U, nI (560 * 1 + n), nI ek]) H hcr (i := 5) (key := 1345309) (lo := 2147483648) (hi := 2147485248) rfl (by decide) (by decide) (by decide)
    obtain ⟨ke, hke, rfl⟩ := zv_nn (n := 1600) e1 e2
    have hw6 := (zv_bd (ys := [nI (S.length + 1), nI w, nI U, nI (560 * 1 + n), nI ek]) H hev (i := 1) (lo := 2147483648) (hi := 2147483654) rfl (by decide +kernel) (by decide) (by decide)).2
    rw [zy_bz_n (by omega)] at hw6
    have hu29 := (zv_bd (ys := [nI (S.length + 1), nI w, nI U, nI (560 * 1 + n), nI ek]) H hev (i := 2) (lo := 2147483648) (hi := 2147483677) rfl (by decide +kernel) (by decide) (by decide)).2
    rw [zy_bz_n (by omega)] at hu29
    obtain ⟨u2, uW⟩ := zu_fr (b := 1) (ws0 := ws0) H HU hU1
    have e : vs1 = [.int (nI 126), .int (nI 7), .ref (zy_fa1 Z 29)] := zv_dm_of (ys := [nI (S.length + 1), nI w, nI U, nI (560 * 1 + n), nI ek]) H (Nat.le_of_ble_eq_true rfl) hst rfl
    subst e
    refine zv_ivM (As := [.int (nI 7), .int (nI 126)]) (rest := []) (q := (12, 366, 248, 0, 7, 211)) (y := zm_248) (zo_push H HU (k := S.length + 1) (x := nI 7) (y := nI 126) (by omega)) hB hx1 (List.mem_of_getElem? (i := 290) rfl) rfl rfl rfl (by decide) rfl (by decide) rfl rfl (Nat.zero_le _) ⟨rfl, q47⟩ rfl (by decide) ?_
    intro vs2 tys2 ws2 H2 locs2 hn2 hq2 hx2
    obtain ⟨rfl, hpu⟩ := hq2
    obtain ⟨p1, p59, p61, p62, pW⟩ := zr_push_fr (b := 1) (ws0 := ws0) H hpu
    have q46b : zy_rd ws2 (zy_ru Z 29) 46 0 = some (.int (nI w)) := (p1 46 (by decide) (by decide)).trans q46
    refine lv_aload_n hx0 hb0 rfl rfl l0 ?_
    refine lv_dup hx0 hb0 rfl rfl ?_
    refine zv_get hB hx2 (q := (12, 363, 12, 46, 6, 147)) (List.mem_of_getElem? (i := 163) rfl) rfl rfl rfl rfl rfl q46b ?_
    refine lv_iconst (v := nI 1) hx0 hb0 rfl (by decide) ?_
    refine lv_iadd hx0 hb0 rfl ?_
    rw [nI_add]
    refine zv_put hB hx2 (q := (12, 363, 12, 46, 6, 147)) (f := 46) (lo := 2147483648) (hi2 := 2147483655) (y := nI (w + 1)) (List.mem_of_getElem? (i := 163) rfl) rfl rfl rfl rfl rfl (by decide +kernel) (by decide +kernel) ⟨fun _ => ⟨_, rfl⟩, fun h => absurd h (by decide +kernel), fun h => absurd h (by decide +kernel)⟩ (by decide +kernel) (by rw [zy_bz_n (by omega)]; omega) (by rw [zy_bz_n (by omega)]; omega) (by decide) (fun H3 locs3 ws3 hx3 hm3 hp3 hf3 => ?_)
    refine lv_iconst (v := nI 1) hx0 hb0 rfl (by decide) ?_
    obtain ⟨t1, t2, tW⟩ := zr_put_fr (b := 1) (ws0 := ws0) H (f0 := 46) (by decide) hm3 hf3
    refine zv_ret hB hx3 rfl rfl rfl ⟨1, by decide, rfl, Or.inr (Or.inr ⟨7 :: S, w + 1, U + 1, n, zr_J_push hJ (x := 7) (by omega) (Or.inr ⟨rfl, rfl, by omega⟩) (tW (pW (uW hW))) ⟨(t1 4 (by decide)).trans ((p1 4 (by decide) (by decide)).trans q4), ⟨ke, hke, (t1 7 (by decide)).trans ((p1 7 (by decide) (by decide)).trans q7)⟩, (t1 47 (by decide)).trans hpu.2.1, hp3, (t1 48 (by decide)).trans ((p1 48 (by decide) (by decide)).trans q48), (t1 45 (by decide)).trans ((p1 45 (by decide) (by decide)).trans q45)⟩ (fun a ha => (t2 61 73 a (by decide) (by decide) rfl (by decide)).trans ((p61 a ha).trans (u2 61 73 a (by decide) (by decide) rfl (by decide) (by decide)))) (fun a ha => (t2 62 74 a (by decide) (by decide) rfl (by decide)).trans ((p62 a ha).trans (u2 62 74 a (by decide) (by decide) rfl (by decide) (by decide)))) ((t2 61 73 _ (by decide) (by decide) rfl (by decide)).trans hpu.2.2.1) ((t2 62 74 _ (by decide) (by decide) rfl (by decide)).trans hpu.2.2.2) (fun a => (t2 59 71 a (by decide) (by decide) rfl (by decide)).trans ((p59 a).trans (u2 59 71 a (by decide) (by decide) rfl (by decide) (by decide))))⟩)⟩
  · skip
    intro ls1 vs1 H1 locs1 tys1 ws1 hx1 hrow hst hcr hev hU1
    have l0 := zv_dl_of (ys := [nI (S.length + 1), nI w, nI U, nI (560 * 1 + n), nI ek]) H (Nat.le_of_ble_eq_true rfl) hrow (i := 0) rfl rfl
    have q47 : zy_rd ws1 (zy_ru Z 29) 47 0 = some (.int (nI (S.length + 1))) := zv_dc_of (ys := [nI (S.length + 1), nI w, nI U, nI (560 * 1 + n), nI ek]) H (Nat.le_of_ble_eq_true rfl) hcr (i := 0) rfl (by decide) rfl
    have q46 : zy_rd ws1 (zy_ru Z 29) 46 0 = some (.int (nI w)) := zv_dc_of (ys := [nI (S.length + 1), nI w, nI U, nI (560 * 1 + n), nI ek]) H (Nat.le_of_ble_eq_true rfl) hcr (i := 1) rfl (by decide) rfl
    have q48 : zy_rd ws1 (zy_ru Z 29) 48 0 = some (.int (nI (U + 1))) := by rw [← nI_add]; exact zv_dc_of (ys := [nI (S.length + 1), nI w, nI U, nI (560 * 1 + n), nI ek]) H (Nat.le_of_ble_eq_true rfl) hcr (i := 2) rfl (by decide) rfl
    have q45 : zy_rd ws1 (zy_ru Z 29) 45 0 = some (.int (nI (560 * 1 + n))) := zv_dc_of (ys := [nI (S.length + 1), nI w, nI U, nI (560 * 1 + n), nI ek]) H (Nat.le_of_ble_eq_true rfl) hcr (i := 3) rfl (by decide) rfl
    have q4 : zy_rd ws1 (zy_ru Z 29) 4 0 = some (.int (nI 0)) := zv_dc_of (ys := [nI (S.length + 1), nI w, nI U, nI (560 * 1 + n), nI ek]) H (Nat.le_of_ble_eq_true rfl) hcr (i := 4) rfl (by decide) rfl
    obtain ⟨ye, q7, e1, e2⟩ := zv_dc_7 (ys := [nI (S.length + 1), nI w, nI U, nI (560 * 1 + n), nI ek]) H hcr (i := 5) (key := 1345309) (lo := 2147483648) (hi := 2147485248) rfl (by decide) (by decide) (by decide)
    obtain ⟨ke, hke, rfl⟩ := zv_nn (n := 1600) e1 e2
    have hu29 := (zv_bd (ys := [nI (S.length + 1), nI w, nI U, nI (560 * 1 + n), nI ek]) H hev (i := 2) (lo := 2147483648) (hi := 2147483677) rfl (by decide +kernel) (by decide) (by decide)).2
    rw [zy_bz_n (by omega)] at hu29
    obtain ⟨u2, uW⟩ := zu_fr (b := 1) (ws0 := ws0) H HU hU1
    obtain ⟨v1, v2, v3, r, rfl, s1, s2, s3, s4⟩ := zy_SR3 hst
    cases r with
    | cons _ _ => exact s4.elim
    | nil =>
    have e2 : v2 = .int (nI 110) := zv_dv_of (ys := [nI (S.length + 1), nI w, nI U, nI (560 * 1 + n), nI ek]) H (Nat.le_of_ble_eq_true rfl) s2 rfl
    have e3 : v3 = .ref (zy_fa1 Z 29) := zv_dv_of (ys := [nI (S.length + 1), nI w, nI U, nI (560 * 1 + n), nI ek]) H (Nat.le_of_ble_eq_true rfl) s3 rfl
    subst e2
    subst e3
    obtain ⟨-, nb, rfl, -⟩ := (zy_r7 (by decide)).mp s1
    refine zv_ivM (As := [.int (nI 110), .int nb]) (rest := []) (q := (12, 378, 249, 0, 7, 227)) (y := zm_249) (zo_emit H HU (k := 560 * 1 + n) (x := nI 110) (y := nb) (by omega)) hB hx1 (List.mem_of_getElem? (i := 295) rfl) rfl rfl rfl (by decide) rfl (by decide) rfl rfl (Nat.zero_le _) ⟨rfl, q45⟩ rfl (by decide) ?_
    intro vs2 tys2 ws2 H2 locs2 hn2 hq2 hx2
    obtain ⟨rfl, hpu⟩ := hq2
    obtain ⟨p1, p59, p61, p62, pW⟩ := zr_emit_fr (b := 1) (ws0 := ws0) H hpu
    refine lv_iconst (v := nI 0) hx0 hb0 rfl (by decide) ?_
    refine zv_ret hB hx2 rfl rfl rfl ⟨0, by decide, rfl, Or.inr (Or.inr ⟨S, w, U + 1, n + 1, zr_J_let hJ (ch := nI 110) (by omega) (by decide) (pW (by omega) (by omega) (uW hW)) ⟨(p1 4 (by decide) (by decide)).trans q4, ⟨ke, hke, (p1 7 (by decide) (by decide)).trans q7⟩, (p1 47 (by decide) (by decide)).trans q47, (p1 46 (by decide) (by decide)).trans q46, (p1 48 (by decide) (by decide)).trans q48, hpu.2.1⟩ (fun a => (p61 a).trans (u2 61 73 a (by decide) (by decide) rfl (by decide) (by decide))) (fun a => (p62 a).trans (u2 62 74 a (by decide) (by decide) rfl (by decide) (by decide))) (fun a ha => (p59 a ha).trans (u2 59 71 a (by decide) (by decide) rfl (by decide) (by decide))) hpu.2.2.1⟩)⟩
  · skip
    intro ls1 vs1 H1 locs1 tys1 ws1 hx1 hrow hst hcr hev hU1
    have l0 := zv_dl_of (ys := [nI (S.length + 1), nI w, nI U, nI (560 * 1 + n), nI ek]) H (Nat.le_of_ble_eq_true rfl) hrow (i := 0) rfl rfl
    have q47 : zy_rd ws1 (zy_ru Z 29) 47 0 = some (.int (nI (S.length + 1))) := zv_dc_of (ys := [nI (S.length + 1), nI w, nI U, nI (560 * 1 + n), nI ek]) H (Nat.le_of_ble_eq_true rfl) hcr (i := 0) rfl (by decide) rfl
    have q46 : zy_rd ws1 (zy_ru Z 29) 46 0 = some (.int (nI w)) := zv_dc_of (ys := [nI (S.length + 1), nI w, nI U, nI (560 * 1 + n), nI ek]) H (Nat.le_of_ble_eq_true rfl) hcr (i := 1) rfl (by decide) rfl
    have q48 : zy_rd ws1 (zy_ru Z 29) 48 0 = some (.int (nI (U + 1))) := by rw [← nI_add]; exact zv_dc_of (ys := [nI (S.length + 1), nI w, nI U, nI (560 * 1 + n), nI ek]) H (Nat.le_of_ble_eq_true rfl) hcr (i := 2) rfl (by decide) rfl
    have q45 : zy_rd ws1 (zy_ru Z 29) 45 0 = some (.int (nI (560 * 1 + n))) := zv_dc_of (ys := [nI (S.length + 1), nI w, nI U, nI (560 * 1 + n), nI ek]) H (Nat.le_of_ble_eq_true rfl) hcr (i := 3) rfl (by decide) rfl
    have q4 : zy_rd ws1 (zy_ru Z 29) 4 0 = some (.int (nI 0)) := zv_dc_of (ys := [nI (S.length + 1), nI w, nI U, nI (560 * 1 + n), nI ek]) H (Nat.le_of_ble_eq_true rfl) hcr (i := 4) rfl (by decide) rfl
    obtain ⟨ye, q7, e1, e2⟩ := zv_dc_7 (ys := [nI (S.length + 1), nI w, nI U, nI (560 * 1 + n), nI ek]) H hcr (i := 5) (key := 1345309) (lo := 2147483648) (hi := 2147485248) rfl (by decide) (by decide) (by decide)
    obtain ⟨ke, hke, rfl⟩ := zv_nn (n := 1600) e1 e2
    have hu29 := (zv_bd (ys := [nI (S.length + 1), nI w, nI U, nI (560 * 1 + n), nI ek]) H hev (i := 2) (lo := 2147483648) (hi := 2147483677) rfl (by decide +kernel) (by decide) (by decide)).2
    rw [zy_bz_n (by omega)] at hu29
    obtain ⟨u2, uW⟩ := zu_fr (b := 1) (ws0 := ws0) H HU hU1
    obtain ⟨v1, v2, v3, r, rfl, s1, s2, s3, s4⟩ := zy_SR3 hst
    cases r with
    | cons _ _ => exact s4.elim
    | nil =>
    have e2 : v2 = .int (nI 98) := zv_dv_of (ys := [nI (S.length + 1), nI w, nI U, nI (560 * 1 + n), nI ek]) H (Nat.le_of_ble_eq_true rfl) s2 rfl
    have e3 : v3 = .ref (zy_fa1 Z 29) := zv_dv_of (ys := [nI (S.length + 1), nI w, nI U, nI (560 * 1 + n), nI ek]) H (Nat.le_of_ble_eq_true rfl) s3 rfl
    subst e2
    subst e3
    obtain ⟨-, nb, rfl, -⟩ := (zy_r7 (by decide)).mp s1
    refine zv_ivM (As := [.int (nI 98), .int nb]) (rest := []) (q := (12, 378, 249, 0, 7, 227)) (y := zm_249) (zo_emit H HU (k := 560 * 1 + n) (x := nI 98) (y := nb) (by omega)) hB hx1 (List.mem_of_getElem? (i := 295) rfl) rfl rfl rfl (by decide) rfl (by decide) rfl rfl (Nat.zero_le _) ⟨rfl, q45⟩ rfl (by decide) ?_
    intro vs2 tys2 ws2 H2 locs2 hn2 hq2 hx2
    obtain ⟨rfl, hpu⟩ := hq2
    obtain ⟨p1, p59, p61, p62, pW⟩ := zr_emit_fr (b := 1) (ws0 := ws0) H hpu
    refine lv_iconst (v := nI 0) hx0 hb0 rfl (by decide) ?_
    refine zv_ret hB hx2 rfl rfl rfl ⟨0, by decide, rfl, Or.inr (Or.inr ⟨S, w, U + 1, n + 1, zr_J_let hJ (ch := nI 98) (by omega) (by decide) (pW (by omega) (by omega) (uW hW)) ⟨(p1 4 (by decide) (by decide)).trans q4, ⟨ke, hke, (p1 7 (by decide) (by decide)).trans q7⟩, (p1 47 (by decide) (by decide)).trans q47, (p1 46 (by decide) (by decide)).trans q46, (p1 48 (by decide) (by decide)).trans q48, hpu.2.1⟩ (fun a => (p61 a).trans (u2 61 73 a (by decide) (by decide) rfl (by decide) (by decide))) (fun a => (p62 a).trans (u2 62 74 a (by decide) (by decide) rfl (by decide) (by decide))) (fun a ha => (p59 a ha).trans (u2 59 71 a (by decide) (by decide) rfl (by decide) (by decide))) hpu.2.2.1⟩)⟩
  · skip
    intro ls1 vs1 H1 locs1 tys1 ws1 hx1 hrow hst hcr hev hU1
    have l0 := zv_dl_of (ys := [nI (S.length + 1), nI w, nI U, nI (560 * 1 + n), nI ek]) H (Nat.le_of_ble_eq_true rfl) hrow (i := 0) rfl rfl
    have q47 : zy_rd ws1 (zy_ru Z 29) 47 0 = some (.int (nI (S.length + 1))) := zv_dc_of (ys := [nI (S.length + 1), nI w, nI U, nI (560 * 1 + n), nI ek]) H (Nat.le_of_ble_eq_true rfl) hcr (i := 0) rfl (by decide) rfl
    have q46 : zy_rd ws1 (zy_ru Z 29) 46 0 = some (.int (nI w)) := zv_dc_of (ys := [nI (S.length + 1), nI w, nI U, nI (560 * 1 + n), nI ek]) H (Nat.le_of_ble_eq_true rfl) hcr (i := 1) rfl (by decide) rfl
    have q48 : zy_rd ws1 (zy_ru Z 29) 48 0 = some (.int (nI (U + 1))) := by rw [← nI_add]; exact zv_dc_of (ys := [nI (S.length + 1), nI w, nI U, nI (560 * 1 + n), nI ek]) H (Nat.le_of_ble_eq_true rfl) hcr (i := 2) rfl (by decide) rfl
    have q45 : zy_rd ws1 (zy_ru Z 29) 45 0 = some (.int (nI (560 * 1 + n))) := zv_dc_of (ys := [nI (S.length + 1), nI w, nI U, nI (560 * 1 + n), nI ek]) H (Nat.le_of_ble_eq_true rfl) hcr (i := 3) rfl (by decide) rfl
    have q4 : zy_rd ws1 (zy_ru Z 29) 4 0 = some (.int (nI 0)) := zv_dc_of (ys := [nI (S.length + 1), nI w, nI U, nI (560 * 1 + n), nI ek]) H (Nat.le_of_ble_eq_true rfl) hcr (i := 4) rfl (by decide) rfl
    obtain ⟨ye, q7, e1, e2⟩ := zv_dc_7 (ys := [nI (S.length + 1), nI w, nI U, nI (560 * 1 + n), nI ek]) H hcr (i := 5) (key := 1345309) (lo := 2147483648) (hi := 2147485248) rfl (by decide) (by decide) (by decide)
    obtain ⟨ke, hke, rfl⟩ := zv_nn (n := 1600) e1 e2
    have hu29 := (zv_bd (ys := [nI (S.length + 1), nI w, nI U, nI (560 * 1 + n), nI ek]) H hev (i := 2) (lo := 2147483648) (hi := 2147483677) rfl (by decide +kernel) (by decide) (by decide)).2
    rw [zy_bz_n (by omega)] at hu29
    obtain ⟨u2, uW⟩ := zu_fr (b := 1) (ws0 := ws0) H HU hU1
    obtain ⟨v1, v2, v3, r, rfl, s1, s2, s3, s4⟩ := zy_SR3 hst
    cases r with
    | cons _ _ => exact s4.elim
    | nil =>
    have e2 : v2 = .int (nI 116) := zv_dv_of (ys := [nI (S.length + 1), nI w, nI U, nI (560 * 1 + n), nI ek]) H (Nat.le_of_ble_eq_true rfl) s2 rfl
    have e3 : v3 = .ref (zy_fa1 Z 29) := zv_dv_of (ys := [nI (S.length + 1), nI w, nI U, nI (560 * 1 + n), nI ek]) H (Nat.le_of_ble_eq_true rfl) s3 rfl
    subst e2
    subst e3
    obtain ⟨-, nb, rfl, -⟩ := (zy_r7 (by decide)).mp s1
    refine zv_ivM (As := [.int (nI 116), .int nb]) (rest := []) (q := (12, 378, 249, 0, 7, 227)) (y := zm_249) (zo_emit H HU (k := 560 * 1 + n) (x := nI 116) (y := nb) (by omega)) hB hx1 (List.mem_of_getElem? (i := 295) rfl) rfl rfl rfl (by decide) rfl (by decide) rfl rfl (Nat.zero_le _) ⟨rfl, q45⟩ rfl (by decide) ?_
    intro vs2 tys2 ws2 H2 locs2 hn2 hq2 hx2
    obtain ⟨rfl, hpu⟩ := hq2
    obtain ⟨p1, p59, p61, p62, pW⟩ := zr_emit_fr (b := 1) (ws0 := ws0) H hpu
    refine lv_iconst (v := nI 0) hx0 hb0 rfl (by decide) ?_
    refine zv_ret hB hx2 rfl rfl rfl ⟨0, by decide, rfl, Or.inr (Or.inr ⟨S, w, U + 1, n + 1, zr_J_let hJ (ch := nI 116) (by omega) (by decide) (pW (by omega) (by omega) (uW hW)) ⟨(p1 4 (by decide) (by decide)).trans q4, ⟨ke, hke, (p1 7 (by decide) (by decide)).trans q7⟩, (p1 47 (by decide) (by decide)).trans q47, (p1 46 (by decide) (by decide)).trans q46, (p1 48 (by decide) (by decide)).trans q48, hpu.2.1⟩ (fun a => (p61 a).trans (u2 61 73 a (by decide) (by decide) rfl (by decide) (by decide))) (fun a => (p62 a).trans (u2 62 74 a (by decide) (by decide) rfl (by decide) (by decide))) (fun a ha => (p59 a ha).trans (u2 59 71 a (by decide) (by decide) rfl (by decide) (by decide))) hpu.2.2.1⟩)⟩
  · skip
    intro ls1 vs1 H1 locs1 tys1 ws1 hx1 hrow hst hcr hev hU1
    have l0 := zv_dl_of (ys := [nI (S.length + 1), nI w, nI U, nI (560 * 1 + n), nI ek]) H (Nat.le_of_ble_eq_true rfl) hrow (i := 0) rfl rfl
    have q47 : zy_rd ws1 (zy_ru Z 29) 47 0 = some (.int (nI (S.length + 1))) := zv_dc_of (ys := [nI (S.length + 1), nI w, nI U, nI (560 * 1 + n), nI ek]) H (Nat.le_of_ble_eq_true rfl) hcr (i := 0) rfl (by decide) rfl
    have q46 : zy_rd ws1 (zy_ru Z 29) 46 0 = some (.int (nI w)) := zv_dc_of (ys := [nI (S.length + 1), nI w, nI U, nI (560 * 1 + n), nI ek]) H (Nat.le_of_ble_eq_true rfl) hcr (i := 1) rfl (by decide) rfl
    have q48 : zy_rd ws1 (zy_ru Z 29) 48 0 = some (.int (nI (U + 1))) := by rw [← nI_add]; exact zv_dc_of (ys := [nI (S.length + 1), nI w, nI U, nI (560 * 1 + n), nI ek]) H (Nat.le_of_ble_eq_true rfl) hcr (i := 2) rfl (by decide) rfl
    have q45 : zy_rd ws1 (zy_ru Z 29) 45 0 = some (.int (nI (560 * 1 + n))) := zv_dc_of (ys := [nI (S.length + 1), nI w, nI U, nI (560 * 1 + n), nI ek]) H (Nat.le_of_ble_eq_true rfl) hcr (i := 3) rfl (by decide) rfl
    have q4 : zy_rd ws1 (zy_ru Z 29) 4 0 = some (.int (nI 0)) := zv_dc_of (ys := [nI (S.length + 1), nI w, nI U, nI (560 * 1 + n), nI ek]) H (Nat.le_of_ble_eq_true rfl) hcr (i := 4) rfl (by decide) rfl
    obtain ⟨ye, q7, e1, e2⟩ := zv_dc_7 (ys := [nI (S.length + 1), nI w, nI U, nI (560 * 1 + n), nI ek]) H hcr (i := 5) (key := 1345309) (lo := 2147483648) (hi := 2147485248) rfl (by decide) (by decide) (by decide)
    obtain ⟨ke, hke, rfl⟩ := zv_nn (n := 1600) e1 e2
    have hu29 := (zv_bd (ys := [nI (S.length + 1), nI w, nI U, nI (560 * 1 + n), nI ek]) H hev (i := 2) (lo := 2147483648) (hi := 2147483677) rfl (by decide +kernel) (by decide) (by decide)).2
    rw [zy_bz_n (by omega)] at hu29
    obtain ⟨u2, uW⟩ := zu_fr (b := 1) (ws0 := ws0) H HU hU1
    obtain ⟨v1, v2, v3, r, rfl, s1, s2, s3, s4⟩ := zy_SR3 hst
    cases r with
    | cons _ _ => exact s4.elim
    | nil =>
    have e2 : v2 = .int (nI 100) := zv_dv_of (ys := [nI (S.length + 1), nI w, nI U, nI (560 * 1 + n), nI ek]) H (Nat.le_of_ble_eq_true rfl) s2 rfl
    have e3 : v3 = .ref (zy_fa1 Z 29) := zv_dv_of (ys := [nI (S.length + 1), nI w, nI U, nI (560 * 1 + n), nI ek]) H (Nat.le_of_ble_eq_true rfl) s3 rfl
    subst e2
    subst e3
    obtain ⟨-, nb, rfl, -⟩ := (zy_r7 (by decide)).mp s1
    refine zv_ivM (As := [.int (nI 100), .int nb]) (rest := []) (q := (12, 378, 249, 0, 7, 227)) (y := zm_249) (zo_emit H HU (k := 560 * 1 + n) (x := nI 100) (y := nb) (by omega)) hB hx1 (List.mem_of_getElem? (i := 295) rfl) rfl rfl rfl (by decide) rfl (by decide) rfl rfl (Nat.zero_le _) ⟨rfl, q45⟩ rfl (by decide) ?_
    intro vs2 tys2 ws2 H2 locs2 hn2 hq2 hx2
    obtain ⟨rfl, hpu⟩ := hq2
    obtain ⟨p1, p59, p61, p62, pW⟩ := zr_emit_fr (b := 1) (ws0 := ws0) H hpu
    refine lv_iconst (v := nI 0) hx0 hb0 rfl (by decide) ?_
    refine zv_ret hB hx2 rfl rfl rfl ⟨0, by decide, rfl, Or.inr (Or.inr ⟨S, w, U + 1, n + 1, zr_J_let hJ (ch := nI 100) (by omega) (by decide) (pW (by omega) (by omega) (uW hW)) ⟨(p1 4 (by decide) (by decide)).trans q4, ⟨ke, hke, (p1 7 (by decide) (by decide)).trans q7⟩, (p1 47 (by decide) (by decide)).trans q47, (p1 46 (by decide) (by decide)).trans q46, (p1 48 (by decide) (by decide)).trans q48, hpu.2.1⟩ (fun a => (p61 a).trans (u2 61 73 a (by decide) (by decide) rfl (by decide) (by decide))) (fun a => (p62 a).trans (u2 62 74 a (by decide) (by decide) rfl (by decide) (by decide))) (fun a ha => (p59 a ha).trans (u2 59 71 a (by decide) (by decide) rfl (by decide) (by decide))) hpu.2.2.1⟩)⟩
  · skip
    intro ls1 vs1 H1 locs1 tys1 ws1 hx1 hrow hst hcr hev hU1
    have l0 := zv_dl_of (ys := [nI (S.length + 1), nI w, nI U, nI (560 * 1 + n), nI ek]) H (Nat.le_of_ble_eq_true rfl) hrow (i := 0) rfl rfl
    have q47 : zy_rd ws1 (zy_ru Z 29) 47 0 = some (.int (nI (S.length + 1))) := zv_dc_of (ys := [nI (S.length + 1), nI w, nI U, nI (560 * 1 + n), nI ek]) H (Nat.le_of_ble_eq_true rfl) hcr (i := 0) rfl (by decide) rfl
    have q46 : zy_rd ws1 (zy_ru Z 29) 46 0 = some (.int (nI w)) := zv_dc_of (ys := [nI (S.length + 1), nI w, nI U, nI (560 * 1 + n), nI ek]) H (Nat.le_of_ble_eq_true rfl) hcr (i := 1) rfl (by decide) rfl
    have q48 : zy_rd ws1 (zy_ru Z 29) 48 0 = some (.int (nI (U + 1))) := by rw [← nI_add]; exact zv_dc_of (ys := [nI (S.length + 1), nI w, nI U, nI (560 * 1 + n), nI ek]) H (Nat.le_of_ble_eq_true rfl) hcr (i := 2) rfl (by decide) rfl
    have q45 : zy_rd ws1 (zy_ru Z 29) 45 0 = some (.int (nI (560 * 1 + n))) := zv_dc_of (ys := [nI (S.length + 1), nI w, nI U, nI (560 * 1 + n), nI ek]) H (Nat.le_of_ble_eq_true rfl) hcr (i := 3) rfl (by decide) rfl
    have q4 : zy_rd ws1 (zy_ru Z 29) 4 0 = some (.int (nI 0)) := zv_dc_of (ys := [nI (S.length + 1), nI w, nI U, nI (560 * 1 + n), nI ek]) H (Nat.le_of_ble_eq_true rfl) hcr (i := 4) rfl (by decide) rfl
    obtain ⟨ye, q7, e1, e2⟩ := zv_dc_7 (ys := [nI (S.length + 1), nI w, nI U, nI (560 * 1 + n), nI ek]) H hcr (i := 5) (key := 1345309) (lo := 2147483648) (hi := 2147485248) rfl (by decide) (by decide) (by decide)
    obtain ⟨ke, hke, rfl⟩ := zv_nn (n := 1600) e1 e2
    have hu29 := (zv_bd (ys := [nI (S.length + 1), nI w, nI U, nI (560 * 1 + n), nI ek]) H hev (i := 2) (lo := 2147483648) (hi := 2147483677) rfl (by decide +kernel) (by decide) (by decide)).2
    rw [zy_bz_n (by omega)] at hu29
    obtain ⟨u2, uW⟩ := zu_fr (b := 1) (ws0 := ws0) H HU hU1
    obtain ⟨v1, v2, v3, r, rfl, s1, s2, s3, s4⟩ := zy_SR3 hst
    cases r with
    | cons _ _ => exact s4.elim
    | nil =>
    have e2 : v2 = .int (nI 112) := zv_dv_of (ys := [nI (S.length + 1), nI w, nI U, nI (560 * 1 + n), nI ek]) H (Nat.le_of_ble_eq_true rfl) s2 rfl
    have e3 : v3 = .ref (zy_fa1 Z 29) := zv_dv_of (ys := [nI (S.length + 1), nI w, nI U, nI (560 * 1 + n), nI ek]) H (Nat.le_of_ble_eq_true rfl) s3 rfl
    subst e2
    subst e3
    obtain ⟨-, nb, rfl, -⟩ := (zy_r7 (by decide)).mp s1
    refine zv_ivM (As := [.int (nI 112), .int nb]) (rest := []) (q := (12, 378, 249, 0, 7, 227)) (y := zm_249) (zo_emit H HU (k := 560 * 1 + n) (x := nI 112) (y := nb) (by omega)) hB hx1 (List.mem_of_getElem? (i := 295) rfl) rfl rfl rfl (by decide) rfl (by decide) rfl rfl (Nat.zero_le _) ⟨rfl, q45⟩ rfl (by decide) ?_
    intro vs2 tys2 ws2 H2 locs2 hn2 hq2 hx2
    obtain ⟨rfl, hpu⟩ := hq2
    obtain ⟨p1, p59, p61, p62, pW⟩ := zr_emit_fr (b := 1) (ws0 := ws0) H hpu
    refine lv_iconst (v := nI 0) hx0 hb0 rfl (by decide) ?_
    refine zv_ret hB hx2 rfl rfl rfl ⟨0, by decide, rfl, Or.inr (Or.inr ⟨S, w, U + 1, n + 1, zr_J_let hJ (ch := nI 112) (by omega) (by decide) (pW (by omega) (by omega) (uW hW)) ⟨(p1 4 (by decide) (by decide)).trans q4, ⟨ke, hke, (p1 7 (by decide) (by decide)).trans q7⟩, (p1 47 (by decide) (by decide)).trans q47, (p1 46 (by decide) (by decide)).trans q46, (p1 48 (by decide) (by decide)).trans q48, hpu.2.1⟩ (fun a => (p61 a).trans (u2 61 73 a (by decide) (by decide) rfl (by decide) (by decide))) (fun a => (p62 a).trans (u2 62 74 a (by decide) (by decide) rfl (by decide) (by decide))) (fun a ha => (p59 a ha).trans (u2 59 71 a (by decide) (by decide) rfl (by decide) (by decide))) hpu.2.2.1⟩)⟩
end ZUN
